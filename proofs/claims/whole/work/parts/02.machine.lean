/-! THE ABSTRACT MACHINE: an interpreter over worlds whose cells are numbered; what it answers, the machine answers (part 04). -/
abbrev am_M : Type := (Nat → Nat → Int32) × (Nat → Nat → Int64) × (Nat → Nat → Option Nat)
abbrev am_Sh : Type := List (Nat × Nat)
abbrev am_Row : Type := Nat × Instr × List Nat × Int32 × Int64 × Nat
abbrev am_L : Type := List (Nat × Value)
abbrev am_S : Type := Nat × am_L × List Value × am_Sh × am_M
abbrev am_C : Type := Nat × List Value × Nat × Nat × Nat × am_S
abbrev am_R : Type := Option Value × am_Sh × am_M
abbrev am_O : Type := am_S ⊕ (am_C ⊕ am_R)
abbrev am_X : Type := Nat × (Nat → Int32) × Bool
/-- writing an int, a long, a reference; a new cell -/
def am_wi (m : am_M) (i j : Nat) (v : Int32) : am_M := (fun a b => if a = i then (if b = j then v else m.1 a b) else m.1 a b, m.2)
def am_wl (m : am_M) (i j : Nat) (v : Int64) : am_M := (m.1, fun a b => if a = i then (if b = j then v else m.2.1 a b) else m.2.1 a b, m.2.2)
def am_wr (m : am_M) (i j : Nat) (v : Option Nat) : am_M := (m.1, m.2.1, fun a b => if a = i then (if b = j then v else m.2.2 a b) else m.2.2 a b)
def am_wz (m : am_M) (i : Nat) : am_M := (fun a b => if a = i then 0 else m.1 a b, fun a b => if a = i then 0 else m.2.1 a b, fun a b => if a = i then none else m.2.2 a b)
def am_look : List am_Row → Nat → Option am_Row
  | [], _ => none
  | r :: t, pc => bif Nat.beq r.1 pc then some r else am_look t pc
def am_get : am_L → Nat → Option Value
  | [], _ => none
  | q :: t, k => bif Nat.beq q.1 k then some q.2 else am_get t k
def am_del : am_L → Nat → am_L
  | [], _ => []
  | q :: t, i => bif Nat.beq q.1 i || (Nat.beq (q.1 + 1) i && Nat.beq q.2.category 2) then am_del t i else q :: am_del t i
def am_del2 : am_L → Nat → am_L
  | [], _ => []
  | q :: t, i => bif Nat.beq q.1 i || (Nat.beq q.1 (i + 1) || (Nat.beq (q.1 + 1) i && Nat.beq q.2.category 2)) then am_del2 t i else q :: am_del2 t i
def am_ps : List Nat → Nat → Nat
  | [], _ => 0
  | a :: _, 0 => a
  | _ :: t, k + 1 => am_ps t k
def am_at : am_Sh → Nat → Option (Nat × Nat)
  | [], _ => none
  | q :: _, 0 => some q
  | _ :: t, k + 1 => am_at t k
/-- the length of a cell of a kind -/
def am_arr (sh : am_Sh) (a kd : Nat) : Option Nat := match am_at sh a with
  | some q => bif Nat.beq q.1 kd then some q.2 else none
  | none => none
def am_rv : Option Nat → Value
  | some a => .ref a
  | none => .null
def am_tot (sh : am_Sh) : Nat := (sh.map fun q => q.2).sum
/-- the rows that nobody writes: the rules' bounds, the script, the bytes of the names -/
def am_least : List Int32 := [2, 5, 1, 1, 0, 1, 1]
def am_most : List Int32 := [8, 120, 20, 8, 8, 9, 300]
def am_first : List Int32 := [6, 30, 6, 4, 2, 2, 300]
def am_words : List (List Int32) := [[114, 101, 97, 99, 104, 101, 115], [98, 101, 97, 116], [100, 114, 97, 117, 103, 104, 116], [112, 111, 105, 110, 116], [115, 104, 105, 102, 116], [116, 117, 114, 110], [100, 97, 114, 107], [98, 97, 110, 107], [100, 101, 101, 112], [101, 100, 100, 121], [108, 101, 101], [119, 105, 110, 100], [116, 105, 100, 101], [104, 105, 103, 104]]
def am_ext (X : am_X) (a : Nat) : Option (Nat × Nat × (Nat → Int32)) :=
  bif Nat.blt a 1000 then none else
  bif Nat.beq a 1000 then some (100, 7, fun j => am_least.getD j 0) else
  bif Nat.beq a 1001 then some (100, 7, fun j => am_most.getD j 0) else
  bif Nat.beq a 1002 then some (100, 7, fun j => am_first.getD j 0) else
  bif Nat.beq a 1003 then some (100, X.1, X.2.1) else
  bif Nat.ble 2100 a && Nat.blt a 2114 then some (102, (am_words.getD (a - 2100) []).length, fun j => (am_words.getD (a - 2100) []).getD j 0) else none
def am_go (nx : Nat) (lv : am_L) (sh : am_Sh) (m : am_M) : Option (List Value) → Option am_O
  | some st => some (.inl (nx, lv, st, sh, m))
  | none => none
def am_ldI (lv : am_L) (x : Nat) (st : List Value) : Option (List Value) := match am_get lv x with
  | some (.int v) => some (.int v :: st)
  | _ => none
def am_ldL (lv : am_L) (x : Nat) (st : List Value) : Option (List Value) := match am_get lv x with
  | some (.long v) => some (.long v :: st)
  | _ => none
def am_ldA (lv : am_L) (x : Nat) (st : List Value) : Option (List Value) := match am_get lv x with
  | some (.ref v) => some (.ref v :: st)
  | _ => none
def am_b2 (f : Int32 → Int32 → Int32) : List Value → Option (List Value)
  | .int b :: .int a :: st => some (.int (f a b) :: st)
  | _ => none
def am_d2 (f : Int32 → Int32 → Int32) : List Value → Option (List Value)
  | .int b :: .int a :: st => if b = 0 then none else some (.int (f a b) :: st)
  | _ => none
def am_u1 (f : Int32 → Int32) : List Value → Option (List Value)
  | .int a :: st => some (.int (f a) :: st)
  | _ => none
def am_bl (f : Int64 → Int64 → Int64) : List Value → Option (List Value)
  | .long b :: .long a :: st => some (.long (f a b) :: st)
  | _ => none
def am_sl (f : Int64 → Int32 → Int64) : List Value → Option (List Value)
  | .int b :: .long a :: st => some (.long (f a b) :: st)
  | _ => none
def am_il : List Value → Option (List Value)
  | .int a :: st => some (.long a.toInt64 :: st)
  | _ => none
def am_li : List Value → Option (List Value)
  | .long a :: st => some (.int a.toInt32 :: st)
  | _ => none
def am_lc : List Value → Option (List Value)
  | .long b :: .long a :: st => some (.int (lg_cmp a b) :: st)
  | _ => none
def am_dup : List Value → Option (List Value)
  | v :: st => bif Nat.beq v.category 1 then some (v :: v :: st) else none
  | _ => none
def am_dup2 : List Value → Option (List Value)
  | v :: w :: st => bif Nat.beq v.category 1 && Nat.beq w.category 1 then some (v :: w :: v :: w :: st) else none
  | _ => none
def am_pop : List Value → Option (List Value)
  | v :: st => bif Nat.beq v.category 1 then some st else none
  | _ => none
def am_br (c : ClassFile.Cond) (a b : Int32) (p q : Nat) : Nat := match c with
  | .eq => if a = b then p else q
  | .ne => if a = b then q else p
  | .lt => if a < b then p else q
  | .ge => if b ≤ a then p else q
  | .gt => if b < a then p else q
  | .le => if a ≤ b then p else q
def am_sw (lo hi : Int) (ps : List Nat) (x : Int32) : Nat := if x.toInt < lo ∨ hi < x.toInt then am_ps ps 0 else am_ps ps ((x.toInt - lo).toNat + 1)
def am_take : Nat → List Value → List Value → Option (List Value × List Value)
  | 0, st, acc => some (acc, st)
  | n + 1, v :: st, acc => am_take n st (v :: acc)
  | _ + 1, [], _ => none
def am_cats : List Value → Nat
  | [] => 0
  | v :: st => v.category + am_cats st
/-- reading a place of a row of ints (kd 100), booleans (101), bytes (102) -/
def am_aldI (X : am_X) (kd : Nat) (sh : am_Sh) (m : am_M) : List Value → Option (List Value)
  | .int j :: .ref a :: st => match am_arr sh a kd with
    | some n => if j < 0 ∨ n ≤ j.toNatClampNeg then none else some (.int (m.1 a j.toNatClampNeg) :: st)
    | none => match am_ext X a with
      | some (k2, n, f) => bif Nat.beq k2 kd then (if j < 0 ∨ n ≤ j.toNatClampNeg then none else some (.int (f j.toNatClampNeg) :: st)) else none
      | none => none
  | _ => none
def am_aldL (sh : am_Sh) (m : am_M) : List Value → Option (List Value)
  | .int j :: .ref a :: st => match am_arr sh a 103 with
    | some n => if j < 0 ∨ n ≤ j.toNatClampNeg then none else some (.long (m.2.1 a j.toNatClampNeg) :: st)
    | none => none
  | _ => none
def am_aldA (kd : Nat) (sh : am_Sh) (m : am_M) : List Value → Option (List Value)
  | .int j :: .ref a :: st => match am_arr sh a kd with
    | some n => if j < 0 ∨ n ≤ j.toNatClampNeg then none else some (am_rv (m.2.2 a j.toNatClampNeg) :: st)
    | none => none
  | _ => none
def am_alen (X : am_X) (kd : Nat) (sh : am_Sh) : List Value → Option (List Value)
  | .ref a :: st => match am_arr sh a kd with
    | some n => some (.int (Int32.ofNat n) :: st)
    | none => match am_ext X a with
      | some (k2, n, _) => bif Nat.beq k2 kd then some (.int (Int32.ofNat n) :: st) else none
      | none => none
  | _ => none
/-- what a store of an int keeps in a row of a kind -/
def am_nar (kd : Nat) (x : Int32) : Int32 := bif Nat.beq kd 101 then vp_nar .boolean x else bif Nat.beq kd 102 then vp_nar .byte x else x
def am_gf (ps : List Nat) (sh : am_Sh) (m : am_M) : List Value → Option (List Value)
  | .ref a :: st => bif Nat.beq (am_ps ps 0) 900 then
      (bif Nat.ble 2000 a && Nat.blt a 2014 then (bif Nat.beq (am_ps ps 1) 0 then some (.ref (a + 100) :: st) else some (.int 0 :: st)) else none)
    else match am_arr sh a (am_ps ps 0) with
      | some n => bif Nat.blt (am_ps ps 1) n then (bif Nat.blt (am_ps ps 2) 2 then some (.int (m.1 a (am_ps ps 1)) :: st) else some (am_rv (m.2.2 a (am_ps ps 1)) :: st)) else none
      | none => none
  | _ => none
def am_ins (X : am_X) (i : Instr) (ps : List Nat) (k : Int32) (kl : Int64) (nx : Nat) (lv : am_L) (st : List Value) (sh : am_Sh) (m : am_M) : Option am_O :=
  match i with
  | .iconst _ => some (.inl (nx, lv, .int k :: st, sh, m))
  | .bipush _ => some (.inl (nx, lv, .int k :: st, sh, m))
  | .sipush _ => some (.inl (nx, lv, .int k :: st, sh, m))
  | .lconst _ => some (.inl (nx, lv, .long kl :: st, sh, m))
  | .ldc2_w _ => some (.inl (nx, lv, .long kl :: st, sh, m))
  | .ldc _ => some (.inl (nx, lv, .ref (am_ps ps 0) :: st, sh, m))
  | .iload _ => am_go nx lv sh m (am_ldI lv (am_ps ps 0) st)
  | .iload_n _ => am_go nx lv sh m (am_ldI lv (am_ps ps 0) st)
  | .lload _ => am_go nx lv sh m (am_ldL lv (am_ps ps 0) st)
  | .lload_n _ => am_go nx lv sh m (am_ldL lv (am_ps ps 0) st)
  | .aload _ => am_go nx lv sh m (am_ldA lv (am_ps ps 0) st)
  | .aload_n _ => am_go nx lv sh m (am_ldA lv (am_ps ps 0) st)
  | .istore _ => match st with
    | .int v :: st => some (.inl (nx, (am_ps ps 0, .int v) :: am_del lv (am_ps ps 0), st, sh, m))
    | _ => none
  | .istore_n _ => match st with
    | .int v :: st => some (.inl (nx, (am_ps ps 0, .int v) :: am_del lv (am_ps ps 0), st, sh, m))
    | _ => none
  | .lstore _ => match st with
    | .long v :: st => some (.inl (nx, (am_ps ps 0, .long v) :: am_del2 lv (am_ps ps 0), st, sh, m))
    | _ => none
  | .lstore_n _ => match st with
    | .long v :: st => some (.inl (nx, (am_ps ps 0, .long v) :: am_del2 lv (am_ps ps 0), st, sh, m))
    | _ => none
  | .astore _ => match st with
    | .ref v :: st => some (.inl (nx, (am_ps ps 0, .ref v) :: am_del lv (am_ps ps 0), st, sh, m))
    | _ => none
  | .astore_n _ => match st with
    | .ref v :: st => some (.inl (nx, (am_ps ps 0, .ref v) :: am_del lv (am_ps ps 0), st, sh, m))
    | _ => none
  | .iinc _ _ => match am_get lv (am_ps ps 0) with
    | some (.int v) => some (.inl (nx, (am_ps ps 0, .int (v + k)) :: am_del lv (am_ps ps 0), st, sh, m))
    | _ => none
  | .iadd => am_go nx lv sh m (am_b2 (fun a b => a + b) st)
  | .isub => am_go nx lv sh m (am_b2 (fun a b => a - b) st)
  | .imul => am_go nx lv sh m (am_b2 (fun a b => a * b) st)
  | .iand => am_go nx lv sh m (am_b2 (fun a b => a &&& b) st)
  | .ior => am_go nx lv sh m (am_b2 (fun a b => a ||| b) st)
  | .ixor => am_go nx lv sh m (am_b2 (fun a b => a ^^^ b) st)
  | .ishl => am_go nx lv sh m (am_b2 (fun a b => a <<< (b &&& 31)) st)
  | .ishr => am_go nx lv sh m (am_b2 (fun a b => a >>> (b &&& 31)) st)
  | .idiv => am_go nx lv sh m (am_d2 (fun a b => a / b) st)
  | .irem => am_go nx lv sh m (am_d2 (fun a b => a - a / b * b) st)
  | .ineg => am_go nx lv sh m (am_u1 (fun a => -a) st)
  | .i2b => am_go nx lv sh m (am_u1 (fun a => a.toInt8.toInt32) st)
  | .i2s => am_go nx lv sh m (am_u1 (fun a => a.toInt16.toInt32) st)
  | .i2c => am_go nx lv sh m (am_u1 (fun a => (a.toUInt32 % 65536).toInt32) st)
  | .ladd => am_go nx lv sh m (am_bl (fun a b => a + b) st)
  | .lsub => am_go nx lv sh m (am_bl (fun a b => a - b) st)
  | .lmul => am_go nx lv sh m (am_bl (fun a b => a * b) st)
  | .land => am_go nx lv sh m (am_bl (fun a b => a &&& b) st)
  | .lor => am_go nx lv sh m (am_bl (fun a b => a ||| b) st)
  | .lshl => am_go nx lv sh m (am_sl (fun a b => a <<< (b.toInt64 &&& 63)) st)
  | .lshr => am_go nx lv sh m (am_sl (fun a b => a >>> (b.toInt64 &&& 63)) st)
  | .lushr => am_go nx lv sh m (am_sl (fun a b => (a.toUInt64 >>> (b.toInt64.toUInt64 &&& Int64.toUInt64 63)).toInt64) st)
  | .i2l => am_go nx lv sh m (am_il st)
  | .l2i => am_go nx lv sh m (am_li st)
  | .lcmp => am_go nx lv sh m (am_lc st)
  | .dup => am_go nx lv sh m (am_dup st)
  | .dup2 => am_go nx lv sh m (am_dup2 st)
  | .pop => am_go nx lv sh m (am_pop st)
  | .goto _ => some (.inl (am_ps ps 0, lv, st, sh, m))
  | .ifCond c _ => match st with
    | .int a :: st => some (.inl (am_br c a 0 (am_ps ps 0) nx, lv, st, sh, m))
    | _ => none
  | .if_icmp c _ => match st with
    | .int b :: .int a :: st => some (.inl (am_br c a b (am_ps ps 0) nx, lv, st, sh, m))
    | _ => none
  | .tableswitch _ lo hi _ => match st with
    | .int a :: st => some (.inl (am_sw lo hi ps a, lv, st, sh, m))
    | _ => none
  | .getfield _ => am_go nx lv sh m (am_gf ps sh m st)
  | .getstatic _ => bif Nat.ble 1000 (am_ps ps 0) then some (.inl (nx, lv, .ref (am_ps ps 0) :: st, sh, m)) else bif Nat.beq (am_ps ps 0) 1 then some (.inl (nx, lv, .int 1 :: st, sh, m)) else some (.inl (nx, lv, (bif X.2.2 then .null else .ref 3000) :: st, sh, m))
  | .putfield _ => match st with
    | .int v :: .ref a :: st => match am_arr sh a (am_ps ps 0) with
      | some n => bif Nat.blt (am_ps ps 1) n then (bif Nat.beq (am_ps ps 2) 0 then some (.inl (nx, lv, st, sh, am_wi m a (am_ps ps 1) v)) else bif Nat.beq (am_ps ps 2) 1 then (if v = 0 ∨ v = 1 then some (.inl (nx, lv, st, sh, am_wi m a (am_ps ps 1) v)) else none) else none) else none
      | none => none
    | .ref v :: .ref a :: st => match am_arr sh a (am_ps ps 0) with
      | some n => bif Nat.blt (am_ps ps 1) n then (bif Nat.beq (am_ps ps 2) 2 then some (.inl (nx, lv, st, sh, am_wr m a (am_ps ps 1) (some v))) else none) else none
      | none => none
    | _ => none
  | .iaload => am_go nx lv sh m (am_aldI X 100 sh m st)
  | .baload => am_go nx lv sh m (am_aldI X (am_ps ps 0) sh m st)
  | .laload => am_go nx lv sh m (am_aldL sh m st)
  | .aaload => am_go nx lv sh m (am_aldA (am_ps ps 0) sh m st)
  | .iastore => match st with
    | .int v :: .int j :: .ref a :: st => match am_arr sh a 100 with
      | some n => if j < 0 ∨ n ≤ j.toNatClampNeg then none else some (.inl (nx, lv, st, sh, am_wi m a j.toNatClampNeg v))
      | none => none
    | _ => none
  | .bastore => match st with
    | .int v :: .int j :: .ref a :: st => match am_arr sh a (am_ps ps 0) with
      | some n => if j < 0 ∨ n ≤ j.toNatClampNeg then none else some (.inl (nx, lv, st, sh, am_wi m a j.toNatClampNeg (am_nar (am_ps ps 0) v)))
      | none => none
    | _ => none
  | .lastore => match st with
    | .long v :: .int j :: .ref a :: st => match am_arr sh a 103 with
      | some n => if j < 0 ∨ n ≤ j.toNatClampNeg then none else some (.inl (nx, lv, st, sh, am_wl m a j.toNatClampNeg v))
      | none => none
    | _ => none
  | .aastore => match st with
    | .ref v :: .int j :: .ref a :: st => match am_arr sh a (am_ps ps 0), am_arr sh v (am_ps ps 1) with
      | some n, some _ => if j < 0 ∨ n ≤ j.toNatClampNeg then none else some (.inl (nx, lv, st, sh, am_wr m a j.toNatClampNeg (some v)))
      | _, _ => none
    | _ => none
  | .arraylength => am_go nx lv sh m (am_alen X (am_ps ps 0) sh st)
  | .new _ => if sh.length < 999 then some (.inl (nx, lv, .ref sh.length :: st, sh ++ [(am_ps ps 0, am_ps ps 1)], am_wz m sh.length)) else none
  | .newarray _ => match st with
    | .int n :: st => if sh.length < 999 ∧ ¬ n < 0 ∧ n.toNatClampNeg ≤ 100000 then some (.inl (nx, lv, .ref sh.length :: st, sh ++ [(am_ps ps 0, n.toNatClampNeg)], am_wz m sh.length)) else none
    | _ => none
  | .anewarray _ => match st with
    | .int n :: st => if sh.length < 999 ∧ ¬ n < 0 ∧ n.toNatClampNeg ≤ 100000 then some (.inl (nx, lv, .ref sh.length :: st, sh ++ [(am_ps ps 0, n.toNatClampNeg)], am_wz m sh.length)) else none
    | _ => none
  | .invokevirtual _ => match am_take (am_ps ps 1) st [] with
    | some (.ref a :: as, st) => bif Nat.ble (am_cats st) 8 && Nat.ble (am_cats (.ref a :: as)) (am_ps ps 2) then
        (bif Nat.beq (am_ps ps 5) 900 then (bif Nat.ble 2000 a && Nat.blt a 2014 then some (.inr (.inl (am_ps ps 0, .ref a :: as, am_ps ps 2, am_ps ps 3, am_ps ps 4, nx, lv, st, sh, m))) else none)
         else match am_arr sh a (am_ps ps 5) with
          | some _ => some (.inr (.inl (am_ps ps 0, .ref a :: as, am_ps ps 2, am_ps ps 3, am_ps ps 4, nx, lv, st, sh, m)))
          | none => none) else none
    | _ => none
  | .invokespecial _ => bif Nat.beq (am_ps ps 0) 9999 then (match st with
      | .ref _ :: st => bif Nat.ble (am_cats st) 8 then some (.inl (nx, lv, st, sh, m)) else none
      | _ => none) else match am_take (am_ps ps 1) st [] with
    | some (.ref a :: as, st) => bif Nat.ble (am_cats st) 8 && Nat.ble (am_cats (.ref a :: as)) (am_ps ps 2) then some (.inr (.inl (am_ps ps 0, .ref a :: as, am_ps ps 2, am_ps ps 3, am_ps ps 4, nx, lv, st, sh, m))) else none
    | _ => none
  | .invokestatic _ => match am_take (am_ps ps 1) st [] with
    | some (as, st) => bif Nat.ble (am_cats st) 8 && Nat.ble (am_cats as) (am_ps ps 2) then some (.inr (.inl (am_ps ps 0, as, am_ps ps 2, am_ps ps 3, am_ps ps 4, nx, lv, st, sh, m))) else none
    | none => none
  | .ireturn => match st with
    | [.int v] => bif Nat.beq (am_ps ps 0) 0 then some (.inr (.inr (some (.int v), sh, m))) else bif Nat.beq (am_ps ps 0) 1 then (if v = 0 ∨ v = 1 then some (.inr (.inr (some (.int v), sh, m))) else none) else (if 0 ≤ v ∧ v < 128 then some (.inr (.inr (some (.int v), sh, m))) else none)
    | _ => none
  | .lreturn => match st with
    | [.long v] => some (.inr (.inr (some (.long v), sh, m)))
    | _ => none
  | .areturn => match st with
    | [.ref v] => some (.inr (.inr (some (.ref v), sh, m)))
    | _ => none
  | .return_ => match st with
    | [] => some (.inr (.inr (none, sh, m)))
    | _ => none
  | _ => none
def am_step (X : am_X) (T : List am_Row) (σ : am_S) : Option am_O := match am_look T σ.1 with
  | some (_, i, ps, k, kl, nx) => am_ins X i ps k kl nx σ.2.1 σ.2.2.1 σ.2.2.2.1 σ.2.2.2.2
  | none => none
