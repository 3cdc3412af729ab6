/-! THE ABSTRACT MACHINE: cells by number (their kind and length), ints, longs and references by cell and place. am_ev runs bytecode on it; what it answers, the machine answers (part 05). -/
abbrev am_M : Type := List (Nat × Nat) × (Nat → Nat → Int32) × (Nat → Nat → Int64) × List (List (Option Nat)) × Nat
/-- a reference: of a cell, at a place; it becomes another -/
def am_pg (P : List (List (Option Nat))) (a k : Nat) : Option Nat := (P.getD a []).getD k none
def am_ps (P : List (List (Option Nat))) (a k : Nat) (v : Option Nat) : List (List (Option Nat)) := P.set a ((P.getD a []).set k v)
def am_up {α : Type} (f : Nat → Nat → α) (a k : Nat) (v : α) : Nat → Nat → α := va_up f a (va_up (f a) k v)
/-- the script (its length, its ints), where there is one -/
abbrev am_X : Type := Option (Nat × (Nat → Int32))
/-- the script's own number -/
def am_scr : Nat := 1000000
def am_uv : Value := .retAddr 0
-- the tables
def T_own (j : Nat) : Nat := (T_m.getD j (0, ByteArray.empty, yX0_init, 0, none, 0, 0, 0)).1
def T_code (j : Nat) : ByteArray := (T_m.getD j (0, ByteArray.empty, yX0_init, 0, none, 0, 0, 0)).2.1
def T_y (j : Nat) : MethodName := (T_m.getD j (0, ByteArray.empty, yX0_init, 0, none, 0, 0, 0)).2.2.1
def T_mxl (j : Nat) : Nat := (T_m.getD j (0, ByteArray.empty, yX0_init, 0, none, 0, 0, 0)).2.2.2.1
def T_ret (j : Nat) : Option FieldType := (T_m.getD j (0, ByteArray.empty, yX0_init, 0, none, 0, 0, 0)).2.2.2.2.1
def T_ini (j : Nat) : Nat := (T_m.getD j (0, ByteArray.empty, yX0_init, 0, none, 0, 0, 0)).2.2.2.2.2.2.2
def T_ins (j pc : Nat) : Option (Instr × Nat) := (T_insL.getD j []).lookup pc
def T_fld (o k : Nat) : Option (Nat × Nat × Nat) := (T_fldL.getD o []).lookup k
def T_call (o k : Nat) : Option (Nat × Nat × Nat × Nat × Nat × Nat × Nat) := (T_callL.getD o []).lookup k
def T_cst (o k : Nat) : Option (Int32 × Nat) := (T_cstL.getD o []).lookup k
def T_csl (o k : Nat) : Option (Int64 × Nat) := (T_cslL.getD o []).lookup k
def T_new (o k : Nat) : Option (Nat × Nat) := (T_newL.getD o []).lookup k
def T_anw (o k : Nat) : Option (Nat × Nat) := (T_anwL.getD o []).lookup k
def am_ty (c : Nat) : Nat → FieldType := T_tyL.getD c (fun _ => .int)
def am_C (c : Nat) : vw_C := vwCl.getD c (RX0, TX0, 11)
abbrev am_nf (c : Nat) : Nat := (am_C c).2.2
-- constants, locals, stack, numbers: (length, locals, stack)
def am_ldi (ls : List Value) (i n : Nat) (st : List Value) : Option (Nat × List Value × List Value) := match ls.getD i am_uv with
  | .int x => some (n, ls, .int x :: st)
  | _ => none
def am_ldl (ls : List Value) (i n : Nat) (st : List Value) : Option (Nat × List Value × List Value) := match ls.getD i am_uv with
  | .long x => some (n, ls, .long x :: st)
  | _ => none
def am_lda (ls : List Value) (i n : Nat) (st : List Value) : Option (Nat × List Value × List Value) := match ls.getD i am_uv with
  | .ref x => some (n, ls, .ref x :: st)
  | .null => some (n, ls, .null :: st)
  | _ => none
def am_s1 (ls : List Value) (i : Nat) (v : Value) : Option (List Value) := if i < ls.length ∧ (i = 0 ∨ (ls.getD (i - 1) am_uv).category = 1) then some (ls.set i v) else none
def am_s2 (ls : List Value) (i : Nat) (v : Value) : Option (List Value) := if i + 1 < ls.length ∧ (i = 0 ∨ (ls.getD (i - 1) am_uv).category = 1) then some ((ls.set i v).set (i + 1) am_uv) else none
def am_sti (ls : List Value) (i n : Nat) (st : List Value) : Option (Nat × List Value × List Value) := match st with
  | .int x :: r => (am_s1 ls i (.int x)).map fun l => (n, l, r)
  | _ => none
def am_stl (ls : List Value) (i n : Nat) (st : List Value) : Option (Nat × List Value × List Value) := match st with
  | .long x :: r => (am_s2 ls i (.long x)).map fun l => (n, l, r)
  | _ => none
def am_sta (ls : List Value) (i n : Nat) (st : List Value) : Option (Nat × List Value × List Value) := match st with
  | .ref x :: r => (am_s1 ls i (.ref x)).map fun l => (n, l, r)
  | .null :: r => (am_s1 ls i .null).map fun l => (n, l, r)
  | _ => none
def am_inc (ls : List Value) (i : Nat) (c : Int) (st : List Value) : Option (Nat × List Value × List Value) := match ls.getD i am_uv with
  | .int x => (am_s1 ls i (.int (x + Int32.ofInt c))).map fun l => (3, l, st)
  | _ => none
def am_i2 (f : Int32 → Int32 → Int32) (ls st : List Value) : Option (Nat × List Value × List Value) := match st with
  | .int y :: .int x :: r => some (1, ls, .int (f x y) :: r)
  | _ => none
def am_i2n (f : Int32 → Int32 → Int32) (ls st : List Value) : Option (Nat × List Value × List Value) := match st with
  | .int y :: .int x :: r => if y = 0 then none else some (1, ls, .int (f x y) :: r)
  | _ => none
def am_i1 (f : Int32 → Value) (ls st : List Value) : Option (Nat × List Value × List Value) := match st with
  | .int x :: r => some (1, ls, f x :: r)
  | _ => none
def am_l2 (f : Int64 → Int64 → Value) (ls st : List Value) : Option (Nat × List Value × List Value) := match st with
  | .long y :: .long x :: r => some (1, ls, f x y :: r)
  | _ => none
def am_l1 (f : Int64 → Value) (ls st : List Value) : Option (Nat × List Value × List Value) := match st with
  | .long x :: r => some (1, ls, f x :: r)
  | _ => none
def am_li (f : Int64 → Int32 → Int64) (ls st : List Value) : Option (Nat × List Value × List Value) := match st with
  | .int y :: .long x :: r => some (1, ls, .long (f x y) :: r)
  | _ => none
def am_dup (ls st : List Value) : Option (Nat × List Value × List Value) := match st with
  | v :: r => if v.category = 1 then some (1, ls, v :: v :: r) else none
  | _ => none
def am_dup2 (ls st : List Value) : Option (Nat × List Value × List Value) := match st with
  | v :: w :: r => if v.category = 1 ∧ w.category = 1 then some (1, ls, v :: w :: v :: w :: r) else none
  | _ => none
def am_pop (ls st : List Value) : Option (Nat × List Value × List Value) := match st with
  | v :: r => if v.category = 1 then some (1, ls, r) else none
  | _ => none
def am_pop2 (ls st : List Value) : Option (Nat × List Value × List Value) := match st with
  | v :: r => if v.category = 2 then some (1, ls, r) else none
  | _ => none
def am_pi (o : Nat) (i : Instr) (ls st : List Value) : Option (Nat × List Value × List Value) := match i with
  | .iconst n => some (1, ls, .int (Int32.ofInt n) :: st)
  | .bipush n => some (2, ls, .int (Int8.ofInt n).toInt32 :: st)
  | .sipush n => some (3, ls, .int (Int16.ofInt n).toInt32 :: st)
  | .lconst n => some (1, ls, .long (Int64.ofNat (n : Nat)) :: st)
  | .aconst_null => some (1, ls, .null :: st)
  | .ldc k => (T_cst o k).map fun v => (2, ls, .int v.1 :: st)
  | .ldc_w k => (T_cst o k).map fun v => (3, ls, .int v.1 :: st)
  | .ldc2_w k => (T_csl o k).map fun v => (3, ls, .long v.1 :: st)
  | .iload_n k => am_ldi ls k 1 st
  | .iload k => am_ldi ls k 2 st
  | .lload_n k => am_ldl ls k 1 st
  | .lload k => am_ldl ls k 2 st
  | .aload_n k => am_lda ls k 1 st
  | .aload k => am_lda ls k 2 st
  | .istore_n k => am_sti ls k 1 st
  | .istore k => am_sti ls k 2 st
  | .lstore_n k => am_stl ls k 1 st
  | .lstore k => am_stl ls k 2 st
  | .astore_n k => am_sta ls k 1 st
  | .astore k => am_sta ls k 2 st
  | .iinc k c => am_inc ls k c st
  | .iadd => am_i2 (fun x y => x + y) ls st
  | .isub => am_i2 (fun x y => x - y) ls st
  | .imul => am_i2 (fun x y => x * y) ls st
  | .iand => am_i2 (fun x y => x &&& y) ls st
  | .ior => am_i2 (fun x y => x ||| y) ls st
  | .ixor => am_i2 (fun x y => x ^^^ y) ls st
  | .ishl => am_i2 (fun x y => x <<< (y &&& 31)) ls st
  | .ishr => am_i2 (fun x y => x >>> (y &&& 31)) ls st
  | .iushr => am_i2 (fun x y => (x.toUInt32 >>> (y.toUInt32 &&& Int32.toUInt32 31)).toInt32) ls st
  | .idiv => am_i2n (fun x y => x / y) ls st
  | .irem => am_i2n (fun x y => x - x / y * y) ls st
  | .ineg => am_i1 (fun x => .int (-x)) ls st
  | .i2l => am_i1 (fun x => .long x.toInt64) ls st
  | .i2b => am_i1 (fun x => .int x.toInt8.toInt32) ls st
  | .i2s => am_i1 (fun x => .int x.toInt16.toInt32) ls st
  | .l2i => am_l1 (fun x => .int x.toInt32) ls st
  | .ladd => am_l2 (fun x y => .long (x + y)) ls st
  | .lsub => am_l2 (fun x y => .long (x - y)) ls st
  | .lmul => am_l2 (fun x y => .long (x * y)) ls st
  | .land => am_l2 (fun x y => .long (x &&& y)) ls st
  | .lor => am_l2 (fun x y => .long (x ||| y)) ls st
  | .lcmp => am_l2 (fun x y => .int (lg_cmp x y)) ls st
  | .lshl => am_li (fun x y => x <<< (y.toInt64 &&& 63)) ls st
  | .lshr => am_li (fun x y => x >>> (y.toInt64 &&& 63)) ls st
  | .lushr => am_li (fun x y => (x.toUInt64 >>> (y.toInt64.toUInt64 &&& Int64.toUInt64 63)).toInt64) ls st
  | .dup => am_dup ls st
  | .dup2 => am_dup2 ls st
  | .pop => am_pop ls st
  | .pop2 => am_pop2 ls st
  | _ => none
-- branches: (whether, offset, stack)
def am_c1 (c : Jvm.ClassFile.Cond) (x : Int32) : Bool := match c with
  | .eq => decide (x = 0)
  | .ne => decide (¬ x = 0)
  | .lt => decide (x < 0)
  | .ge => decide (0 ≤ x)
  | .gt => decide (0 < x)
  | .le => decide (x ≤ 0)
def am_c2 (c : Jvm.ClassFile.Cond) (x y : Int32) : Bool := match c with
  | .eq => decide (x = y)
  | .ne => decide (¬ x = y)
  | .lt => decide (x < y)
  | .ge => decide (y ≤ x)
  | .gt => decide (y < x)
  | .le => decide (x ≤ y)
def am_bi (i : Instr) (st : List Value) : Option (Bool × Int × List Value) := match i with
  | .ifCond c off => match st with
    | .int x :: r => some (am_c1 c x, off, r)
    | _ => none
  | .if_icmp c off => match st with
    | .int y :: .int x :: r => some (am_c2 c x y, off, r)
    | _ => none
  | .ifnull off => match st with
    | .null :: r => some (true, off, r)
    | .ref _ :: r => some (false, off, r)
    | _ => none
  | .ifnonnull off => match st with
    | .null :: r => some (false, off, r)
    | .ref _ :: r => some (true, off, r)
    | _ => none
  | .goto off => some (true, off, st)
  | _ => none
def am_sw (i : Instr) (st : List Value) : Option (Int × List Value) := match i with
  | .tableswitch dflt lo hi offs => match st with
    | .int x :: r => if x.toInt < lo ∨ hi < x.toInt then some (dflt, r) else (offs[(x.toInt - lo).toNat]?).map fun off => (off, r)
    | _ => none
  | .lookupswitch dflt ps => match st with
    | .int x :: r => if (ps.toList.zip (ps.toList.drop 1)).all (fun (a, next) => a.1 < next.1) = true then some (Op.lookupswitch.offset ps.toList dflt x.toInt, r) else none
    | _ => none
  | _ => none
-- what is read of the memory: (length, stack)
def am_fa (σ : am_M) (a k : Nat) (ty : FieldType) : Value := match ty with
  | .long => .long (σ.2.2.1 a k)
  | .object _ => va_rf (am_pg σ.2.2.2.1 a k)
  | .array _ => va_rf (am_pg σ.2.2.2.1 a k)
  | _ => .int (σ.2.1 a k)
def am_rd (X : am_X) (o : Nat) (i : Instr) (st : List Value) (σ : am_M) : Option (Nat × List Value) := match i with
  | .getfield k => match T_fld o k with
    | some (ci, f, _) => match st with
      | .ref a :: r => if σ.1[a]? = some (ci, am_nf ci) then some (3, am_fa σ a f (am_ty ci f) :: r) else none
      | _ => none
    | none => none
  | .iaload => match st with
    | .int x :: .ref a :: r => if a = am_scr then (match X with
        | some Y => if ¬ (x < 0 ∨ Y.1 ≤ x.toNatClampNeg) then some (1, .int (Y.2 x.toNatClampNeg) :: r) else none
        | none => none)
      else match σ.1[a]? with
        | some (50, n) => if ¬ (x < 0 ∨ n ≤ x.toNatClampNeg) then some (1, .int (σ.2.1 a x.toNatClampNeg) :: r) else none
        | _ => none
    | _ => none
  | .baload => match st with
    | .int x :: .ref a :: r => match σ.1[a]? with
        | some (51, n) => if ¬ (x < 0 ∨ n ≤ x.toNatClampNeg) then some (1, .int (σ.2.1 a x.toNatClampNeg) :: r) else none
        | _ => none
    | _ => none
  | .aaload => match st with
    | .int x :: .ref a :: r => match σ.1[a]? with
        | some (c, n) => if 52 ≤ c ∧ c < 52 + T_arr.length ∧ ¬ (x < 0 ∨ n ≤ x.toNatClampNeg) then some (1, va_rf (am_pg σ.2.2.2.1 a x.toNatClampNeg) :: r) else none
        | _ => none
    | _ => none
  | .arraylength => match st with
    | .ref a :: r => if a = am_scr then (X.map fun Y => (1, .int (Int32.ofNat Y.1) :: r)) else match σ.1[a]? with
        | some (c, n) => if 50 ≤ c ∧ c < 52 + T_arr.length then some (1, .int (Int32.ofNat n) :: r) else none
        | _ => none
    | _ => none
  | _ => none
-- what is written: (length, stack, memory)
def am_pf (σ : am_M) (a k : Nat) (ty : FieldType) (v : Value) : Option am_M := match ty, v with
  | .long, .long x => some (σ.1, σ.2.1, am_up σ.2.2.1 a k x, σ.2.2.2.1, σ.2.2.2.2)
  | .int, .int x => some (σ.1, am_up σ.2.1 a k x, σ.2.2.1, σ.2.2.2.1, σ.2.2.2.2)
  | .boolean, .int x => if x = 0 ∨ x = 1 then some (σ.1, am_up σ.2.1 a k x, σ.2.2.1, σ.2.2.2.1, σ.2.2.2.2) else none
  | .object _, .ref b => if a < σ.2.2.2.1.length ∧ k < (σ.2.2.2.1.getD a []).length then some (σ.1, σ.2.1, σ.2.2.1, am_ps σ.2.2.2.1 a k (some b), σ.2.2.2.2) else none
  | .array _, .ref b => if a < σ.2.2.2.1.length ∧ k < (σ.2.2.2.1.getD a []).length then some (σ.1, σ.2.1, σ.2.2.1, am_ps σ.2.2.2.1 a k (some b), σ.2.2.2.2) else none
  | _, _ => none
def am_wr (o ini : Nat) (i : Instr) (st : List Value) (σ : am_M) : Option (Nat × List Value × am_M) := match i with
  | .putfield k => match T_fld o k with
    | some (ci, f, _) => match st with
      | v :: .ref a :: r => if σ.1[a]? = some (ci, am_nf ci) ∧ (((am_C ci).2.1 f).2.2.2 = false ∨ (ini = 1 ∧ ((am_C ci).2.1 f).1 = T_R o)) then (am_pf σ a f (am_ty ci f) v).map fun σ' => (3, r, σ') else none
      | _ => none
    | none => none
  | .iastore => match st with
    | .int v :: .int x :: .ref a :: r => match σ.1[a]? with
        | some (50, n) => if ¬ (x < 0 ∨ n ≤ x.toNatClampNeg) then some (1, r, (σ.1, am_up σ.2.1 a x.toNatClampNeg v, σ.2.2.1, σ.2.2.2.1, σ.2.2.2.2)) else none
        | _ => none
    | _ => none
  | .bastore => match st with
    | .int v :: .int x :: .ref a :: r => match σ.1[a]? with
        | some (51, n) => if ¬ (x < 0 ∨ n ≤ x.toNatClampNeg) ∧ (v = 0 ∨ v = 1) then some (1, r, (σ.1, am_up σ.2.1 a x.toNatClampNeg v, σ.2.2.1, σ.2.2.2.1, σ.2.2.2.2)) else none
        | _ => none
    | _ => none
  | .aastore => match st with
    | .ref v :: .int x :: .ref a :: r => match σ.1[a]? with
        | some (c, n) => if 52 ≤ c ∧ c < 52 + T_arr.length ∧ ¬ (x < 0 ∨ n ≤ x.toNatClampNeg) ∧ σ.1[v]? = some ((T_arr.getD (c - 52) (0, 0)).1, am_nf (T_arr.getD (c - 52) (0, 0)).1) ∧ a < σ.2.2.2.1.length ∧ x.toNatClampNeg < (σ.2.2.2.1.getD a []).length then some (1, r, (σ.1, σ.2.1, σ.2.2.1, am_ps σ.2.2.2.1 a x.toNatClampNeg (some v), σ.2.2.2.2)) else none
        | _ => none
    | _ => none
  | _ => none
-- what is made
def am_row (c n : Nat) : List (Option Nat) := if c = 50 ∨ c = 51 then [] else List.replicate n none
def am_mk (σ : am_M) (c n : Nat) : am_M := (σ.1 ++ [(c, n)], va_up σ.2.1 σ.1.length (fun _ => 0), va_up σ.2.2.1 σ.1.length (fun _ => 0), σ.2.2.2.1 ++ [am_row c n], σ.2.2.2.2 + n)
def am_al (o : Nat) (i : Instr) (st : List Value) (σ : am_M) : Option (Nat × List Value × am_M) := match i with
  | .new k => match T_new o k with
    | some (ci, _) => if σ.1.length < am_scr ∧ σ.2.2.2.1.length = σ.1.length then some (3, .ref σ.1.length :: st, am_mk σ ci (am_nf ci)) else none
    | none => none
  | .newarray t => match st with
    | .int x :: r => if (σ.1.length < am_scr ∧ σ.2.2.2.1.length = σ.1.length) ∧ ¬ x < 0 ∧ x.toNatClampNeg ≤ 100000 then (match t with
        | .int => some (2, .ref σ.1.length :: r, am_mk σ 50 x.toNatClampNeg)
        | .boolean => some (2, .ref σ.1.length :: r, am_mk σ 51 x.toNatClampNeg)
        | _ => none) else none
    | _ => none
  | .anewarray k => match T_anw o k with
    | some (t, _) => match st with
      | .int x :: r => if (σ.1.length < am_scr ∧ σ.2.2.2.1.length = σ.1.length) ∧ ¬ x < 0 ∧ x.toNatClampNeg ≤ 100000 then some (3, .ref σ.1.length :: r, am_mk σ (52 + t) x.toNatClampNeg) else none
      | _ => none
    | none => none
  | _ => none
-- calls: none: Object's maker; some (method, arguments); the rest of the stack
def am_ca (o : Nat) (i : Instr) (st : List Value) (σ : am_M) : Option (Option (Nat × List Value) × List Value) := match i with
  | .invokestatic k => match T_call o k with
    | some (kd, j, n, _) => if kd ≤ 1 ∧ n ≤ st.length ∧ ((st.drop n).map fun v => v.category).sum ≤ 8 then some (some (j, (st.take n).reverse), st.drop n) else none
    | none => none
  | .invokevirtual k => match T_call o k with
    | some (kd, j, n, _) => match st.drop n with
      | .ref b :: r => if kd = 2 ∧ n ≤ st.length ∧ (r.map fun v => v.category).sum ≤ 8 ∧ σ.1[b]? = some (T_own j, am_nf (T_own j)) then some (some (j, .ref b :: (st.take n).reverse), r) else none
      | _ => none
    | none => none
  | .invokespecial k => match T_call o k with
    | some (kd, j, n, _) => match st.drop n with
      | .ref b :: r => if n ≤ st.length ∧ (r.map fun v => v.category).sum ≤ 8 ∧ b ≠ am_scr then (if kd = 4 ∨ kd = 5 then some (some (j, .ref b :: (st.take n).reverse), r) else if kd = 6 ∧ n = 0 then some (none, r) else none) else none
      | _ => none
    | none => none
  | _ => none
-- Math.max, min, abs
def am_ma (o : Nat) (i : Instr) (st : List Value) : Option (List Value) := match i with
  | .invokestatic k => match T_call o k with
    | some (kd, _) => if kd = 7 then (match st with
        | .int y :: .int x :: r => if (r.map fun v => v.category).sum ≤ 8 then some (.int (if x < y then y else x) :: r) else none
        | _ => none) else if kd = 8 then (match st with
        | .int y :: .int x :: r => if (r.map fun v => v.category).sum ≤ 8 then some (.int (if y < x then y else x) :: r) else none
        | _ => none) else if kd = 9 then (match st with
        | .int x :: r => if (r.map fun v => v.category).sum ≤ 8 then some (.int (if 0 ≤ x then x else 0 - x) :: r) else none
        | _ => none) else none
    | none => none
  | _ => none
/-- locals at a method's entry -/
def am_fl : List Value → List Value
  | [] => []
  | v :: vs => if v.category = 2 then v :: am_uv :: am_fl vs else v :: am_fl vs
def am_en (n : Nat) (as : List Value) : List Value := am_fl as ++ List.replicate (n - (am_fl as).length) am_uv
def am_rt (ret : Option FieldType) (i : Instr) (st : List Value) : Option (Option Value) := match i with
  | .ireturn => match st with
    | [.int v] => if ret = some .int ∨ (ret = some .boolean ∧ (v = 0 ∨ v = 1)) then some (some (.int v)) else none
    | _ => none
  | .lreturn => match st with
    | [.long v] => if ret = some .long then some (some (.long v)) else none
    | _ => none
  | .areturn => match st with
    | [.ref v] => match ret with
      | some (.object _) => some (some (.ref v))
      | _ => none
    | [.null] => match ret with
      | some (.object _) => some (some .null)
      | _ => none
    | _ => none
  | .return_ => match st with
    | [] => if ret = none then some none else none
    | _ => none
  | _ => none
/-- one instruction; f: what is done behind it -/
def am_one (X : am_X) (f : Nat → Nat → Nat → List Value → List Value → am_M → Option (Option Value × am_M)) (d j pc : Nat) (ls st : List Value) (σ : am_M) : Option (Option Value × am_M) := match T_ins j pc with
  | none => none
  | some (i, len) => match am_pi (T_own j) i ls st with
    | some (L, ls', st') => if len = L then f d j (pc + L) ls' st' σ else none
    | none => match am_bi i st with
      | some (c, off, st') => if len = 3 ∧ 0 ≤ (pc : Int) + off then (if c = true then f d j ((pc : Int) + off).toNat ls st' σ else f d j (pc + 3) ls st' σ) else none
      | none => match am_sw i st with
        | some (off, st') => if 0 ≤ (pc : Int) + off then f d j ((pc : Int) + off).toNat ls st' σ else none
        | none => match am_rd X (T_own j) i st σ with
          | some (L, st') => if len = L then f d j (pc + L) ls st' σ else none
          | none => match am_wr (T_own j) (T_ini j) i st σ with
            | some (L, st', σ') => if len = L then f d j (pc + L) ls st' σ' else none
            | none => match am_al (T_own j) i st σ with
              | some (L, st', σ') => if len = L then f d j (pc + L) ls st' σ' else none
              | none => match am_ca (T_own j) i st σ with
                | some (some (k, as), r) => if len = 3 ∧ 0 < d ∧ (am_fl as).length ≤ T_mxl k then (match f (d - 1) k 0 (am_en (T_mxl k) as) [] σ with
                    | some (v, σ') => f d j (pc + 3) ls (v.toList ++ r) σ'
                    | none => none) else none
                | some (none, r) => if len = 3 ∧ 0 < d then f d j (pc + 3) ls r σ else none
                | none => match am_ma (T_own j) i st with
                  | some st' => if len = 3 ∧ 0 < d then f d j (pc + 3) ls st' σ else none
                  | none => if len = 1 then (am_rt (T_ret j) i st).map fun v => (v, σ) else none
/-- n steps at most; d: calls that may still be begun -/
def am_ev (X : am_X) : Nat → Nat → Nat → Nat → List Value → List Value → am_M → Option (Option Value × am_M)
  | 0 => fun _ _ _ _ _ _ => none
  | n + 1 => am_one X (am_ev X n)
