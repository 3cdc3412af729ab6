/-! RULES, in the form that a step takes: what is proved once of an instruction's sort -/
section AMH
variable {X : am_X} {d j pc : Nat} {ls st : List Value} {σ : am_M} {Q : Option Value → am_M → Prop}
theorem g_iln {i : Fin 4} {x : Int32} (hi : T_ins j pc = some (.iload_n i, 1)) (h : ls.getD (i : Nat) am_uv = .int x) (k : am_wp X d j (pc + 1) ls (.int x :: st) σ Q) : am_wp X d j pc ls st σ Q := Eq.mpr (am_wp_pi hi (by show am_ldi ls i 1 st = _; unfold am_ldi; rw [h])) k
theorem g_il {i : Nat} {x : Int32} (hi : T_ins j pc = some (.iload i, 2)) (h : ls.getD i am_uv = .int x) (k : am_wp X d j (pc + 2) ls (.int x :: st) σ Q) : am_wp X d j pc ls st σ Q := Eq.mpr (am_wp_pi hi (by show am_ldi ls i 2 st = _; unfold am_ldi; rw [h])) k
theorem g_lln {i : Fin 4} {x : Int64} (hi : T_ins j pc = some (.lload_n i, 1)) (h : ls.getD (i : Nat) am_uv = .long x) (k : am_wp X d j (pc + 1) ls (.long x :: st) σ Q) : am_wp X d j pc ls st σ Q := Eq.mpr (am_wp_pi hi (by show am_ldl ls i 1 st = _; unfold am_ldl; rw [h])) k
theorem g_ll {i : Nat} {x : Int64} (hi : T_ins j pc = some (.lload i, 2)) (h : ls.getD i am_uv = .long x) (k : am_wp X d j (pc + 2) ls (.long x :: st) σ Q) : am_wp X d j pc ls st σ Q := Eq.mpr (am_wp_pi hi (by show am_ldl ls i 2 st = _; unfold am_ldl; rw [h])) k
theorem g_aln {i : Fin 4} {x : Nat} (hi : T_ins j pc = some (.aload_n i, 1)) (h : ls.getD (i : Nat) am_uv = .ref x) (k : am_wp X d j (pc + 1) ls (.ref x :: st) σ Q) : am_wp X d j pc ls st σ Q := Eq.mpr (am_wp_pi hi (by show am_lda ls i 1 st = _; unfold am_lda; rw [h])) k
theorem g_aln0 {i : Fin 4} (hi : T_ins j pc = some (.aload_n i, 1)) (h : ls.getD (i : Nat) am_uv = .null) (k : am_wp X d j (pc + 1) ls (.null :: st) σ Q) : am_wp X d j pc ls st σ Q := Eq.mpr (am_wp_pi hi (by show am_lda ls i 1 st = _; unfold am_lda; rw [h])) k
theorem g_al {i : Nat} {x : Nat} (hi : T_ins j pc = some (.aload i, 2)) (h : ls.getD i am_uv = .ref x) (k : am_wp X d j (pc + 2) ls (.ref x :: st) σ Q) : am_wp X d j pc ls st σ Q := Eq.mpr (am_wp_pi hi (by show am_lda ls i 2 st = _; unfold am_lda; rw [h])) k
theorem g_al0 {i : Nat} (hi : T_ins j pc = some (.aload i, 2)) (h : ls.getD i am_uv = .null) (k : am_wp X d j (pc + 2) ls (.null :: st) σ Q) : am_wp X d j pc ls st σ Q := Eq.mpr (am_wp_pi hi (by show am_lda ls i 2 st = _; unfold am_lda; rw [h])) k
theorem g_isn {i : Fin 4} {x : Int32} {ls' : List Value} (hi : T_ins j pc = some (.istore_n i, 1)) (h1 : (i : Nat) < ls.length) (h2 : (i : Nat) = 0 ∨ (ls.getD ((i : Nat) - 1) am_uv).category = 1) (h3 : ls.set (i : Nat) (.int x) = ls') (k : am_wp X d j (pc + 1) ls' st σ Q) : am_wp X d j pc ls (.int x :: st) σ Q := by
  subst h3
  exact Eq.mpr (r_is hi rfl h1 h2) k
theorem g_is {i : Nat} {x : Int32} {ls' : List Value} (hi : T_ins j pc = some (.istore i, 2)) (h1 : i < ls.length) (h2 : i = 0 ∨ (ls.getD (i - 1) am_uv).category = 1) (h3 : ls.set i (.int x) = ls') (k : am_wp X d j (pc + 2) ls' st σ Q) : am_wp X d j pc ls (.int x :: st) σ Q := by
  subst h3
  exact Eq.mpr (r_is hi rfl h1 h2) k
theorem g_lsn {i : Fin 4} {x : Int64} {ls' : List Value} (hi : T_ins j pc = some (.lstore_n i, 1)) (h1 : (i : Nat) + 1 < ls.length) (h2 : (i : Nat) = 0 ∨ (ls.getD ((i : Nat) - 1) am_uv).category = 1) (h3 : (ls.set (i : Nat) (.long x)).set ((i : Nat) + 1) am_uv = ls') (k : am_wp X d j (pc + 1) ls' st σ Q) : am_wp X d j pc ls (.long x :: st) σ Q := by
  subst h3
  exact Eq.mpr (r_ls hi rfl h1 h2) k
theorem g_ls {i : Nat} {x : Int64} {ls' : List Value} (hi : T_ins j pc = some (.lstore i, 2)) (h1 : i + 1 < ls.length) (h2 : i = 0 ∨ (ls.getD (i - 1) am_uv).category = 1) (h3 : (ls.set i (.long x)).set (i + 1) am_uv = ls') (k : am_wp X d j (pc + 2) ls' st σ Q) : am_wp X d j pc ls (.long x :: st) σ Q := by
  subst h3
  exact Eq.mpr (r_ls hi rfl h1 h2) k
theorem g_asn {i : Fin 4} {x : Nat} {ls' : List Value} (hi : T_ins j pc = some (.astore_n i, 1)) (h1 : (i : Nat) < ls.length) (h2 : (i : Nat) = 0 ∨ (ls.getD ((i : Nat) - 1) am_uv).category = 1) (h3 : ls.set (i : Nat) (.ref x) = ls') (k : am_wp X d j (pc + 1) ls' st σ Q) : am_wp X d j pc ls (.ref x :: st) σ Q := by
  subst h3
  exact Eq.mpr (r_as (x := some x) hi (fun _ => rfl) h1 h2) k
theorem g_asn0 {i : Fin 4} {ls' : List Value} (hi : T_ins j pc = some (.astore_n i, 1)) (h1 : (i : Nat) < ls.length) (h2 : (i : Nat) = 0 ∨ (ls.getD ((i : Nat) - 1) am_uv).category = 1) (h3 : ls.set (i : Nat) .null = ls') (k : am_wp X d j (pc + 1) ls' st σ Q) : am_wp X d j pc ls (.null :: st) σ Q := by
  subst h3
  exact Eq.mpr (r_as (x := none) hi (fun _ => rfl) h1 h2) k
theorem g_as {i : Nat} {x : Nat} {ls' : List Value} (hi : T_ins j pc = some (.astore i, 2)) (h1 : i < ls.length) (h2 : i = 0 ∨ (ls.getD (i - 1) am_uv).category = 1) (h3 : ls.set i (.ref x) = ls') (k : am_wp X d j (pc + 2) ls' st σ Q) : am_wp X d j pc ls (.ref x :: st) σ Q := by
  subst h3
  exact Eq.mpr (r_as (x := some x) hi (fun _ => rfl) h1 h2) k
theorem g_as0 {i : Nat} {ls' : List Value} (hi : T_ins j pc = some (.astore i, 2)) (h1 : i < ls.length) (h2 : i = 0 ∨ (ls.getD (i - 1) am_uv).category = 1) (h3 : ls.set i .null = ls') (k : am_wp X d j (pc + 2) ls' st σ Q) : am_wp X d j pc ls (.null :: st) σ Q := by
  subst h3
  exact Eq.mpr (r_as (x := none) hi (fun _ => rfl) h1 h2) k
theorem g_inc {i : Nat} {z : Int} {x v : Int32} {ls' : List Value} (hi : T_ins j pc = some (.iinc i z, 3)) (hx : ls.getD i am_uv = .int x) (h1 : i < ls.length) (h2 : i = 0 ∨ (ls.getD (i - 1) am_uv).category = 1) (hv : Int32.ofInt z = v) (h3 : ls.set i (.int (x + v)) = ls') (k : am_wp X d j (pc + 3) ls' st σ Q) : am_wp X d j pc ls st σ Q := by
  subst h3
  exact Eq.mpr (r_inc hi hx h1 h2 hv) k
theorem g_iadd {x y : Int32} (hi : T_ins j pc = some (.iadd, 1)) (k : am_wp X d j (pc + 1) ls (.int (x + y) :: st) σ Q) : am_wp X d j pc ls (.int y :: .int x :: st) σ Q := Eq.mpr (am_wp_pi hi rfl) k
theorem g_isub {x y : Int32} (hi : T_ins j pc = some (.isub, 1)) (k : am_wp X d j (pc + 1) ls (.int (x - y) :: st) σ Q) : am_wp X d j pc ls (.int y :: .int x :: st) σ Q := Eq.mpr (am_wp_pi hi rfl) k
theorem g_imul {x y : Int32} (hi : T_ins j pc = some (.imul, 1)) (k : am_wp X d j (pc + 1) ls (.int (x * y) :: st) σ Q) : am_wp X d j pc ls (.int y :: .int x :: st) σ Q := Eq.mpr (am_wp_pi hi rfl) k
theorem g_iand {x y : Int32} (hi : T_ins j pc = some (.iand, 1)) (k : am_wp X d j (pc + 1) ls (.int (x &&& y) :: st) σ Q) : am_wp X d j pc ls (.int y :: .int x :: st) σ Q := Eq.mpr (am_wp_pi hi rfl) k
theorem g_ior {x y : Int32} (hi : T_ins j pc = some (.ior, 1)) (k : am_wp X d j (pc + 1) ls (.int (x ||| y) :: st) σ Q) : am_wp X d j pc ls (.int y :: .int x :: st) σ Q := Eq.mpr (am_wp_pi hi rfl) k
theorem g_ixor {x y : Int32} (hi : T_ins j pc = some (.ixor, 1)) (k : am_wp X d j (pc + 1) ls (.int (x ^^^ y) :: st) σ Q) : am_wp X d j pc ls (.int y :: .int x :: st) σ Q := Eq.mpr (am_wp_pi hi rfl) k
theorem g_ishl {x y : Int32} (hi : T_ins j pc = some (.ishl, 1)) (k : am_wp X d j (pc + 1) ls (.int (am_shl x y) :: st) σ Q) : am_wp X d j pc ls (.int y :: .int x :: st) σ Q := Eq.mpr (am_wp_pi hi rfl) k
theorem g_ishr {x y : Int32} (hi : T_ins j pc = some (.ishr, 1)) (k : am_wp X d j (pc + 1) ls (.int (am_shr x y) :: st) σ Q) : am_wp X d j pc ls (.int y :: .int x :: st) σ Q := Eq.mpr (am_wp_pi hi rfl) k
theorem g_iushr {x y : Int32} (hi : T_ins j pc = some (.iushr, 1)) (k : am_wp X d j (pc + 1) ls (.int (am_ushr x y) :: st) σ Q) : am_wp X d j pc ls (.int y :: .int x :: st) σ Q := Eq.mpr (am_wp_pi hi rfl) k
theorem g_idiv {x y : Int32} (hi : T_ins j pc = some (.idiv, 1)) (h : ¬ y = 0) (k : am_wp X d j (pc + 1) ls (.int (x / y) :: st) σ Q) : am_wp X d j pc ls (.int y :: .int x :: st) σ Q := Eq.mpr (r_div hi h) k
theorem g_irem {x y : Int32} (hi : T_ins j pc = some (.irem, 1)) (h : ¬ y = 0) (k : am_wp X d j (pc + 1) ls (.int (am_rem x y) :: st) σ Q) : am_wp X d j pc ls (.int y :: .int x :: st) σ Q := Eq.mpr (r_rem hi h) k
theorem g_ineg {x : Int32} (hi : T_ins j pc = some (.ineg, 1)) (k : am_wp X d j (pc + 1) ls (.int (-x) :: st) σ Q) : am_wp X d j pc ls (.int x :: st) σ Q := Eq.mpr (am_wp_pi hi rfl) k
theorem g_i2l {x : Int32} (hi : T_ins j pc = some (.i2l, 1)) (k : am_wp X d j (pc + 1) ls (.long (Int32.toInt64 x) :: st) σ Q) : am_wp X d j pc ls (.int x :: st) σ Q := Eq.mpr (am_wp_pi hi rfl) k
theorem g_i2b {x : Int32} (hi : T_ins j pc = some (.i2b, 1)) (k : am_wp X d j (pc + 1) ls (.int (am_i2b x) :: st) σ Q) : am_wp X d j pc ls (.int x :: st) σ Q := Eq.mpr (am_wp_pi hi rfl) k
theorem g_i2s {x : Int32} (hi : T_ins j pc = some (.i2s, 1)) (k : am_wp X d j (pc + 1) ls (.int (am_i2s x) :: st) σ Q) : am_wp X d j pc ls (.int x :: st) σ Q := Eq.mpr (am_wp_pi hi rfl) k
theorem g_l2i {x : Int64} (hi : T_ins j pc = some (.l2i, 1)) (k : am_wp X d j (pc + 1) ls (.int (Int64.toInt32 x) :: st) σ Q) : am_wp X d j pc ls (.long x :: st) σ Q := Eq.mpr (am_wp_pi hi rfl) k
theorem g_ladd {x y : Int64} (hi : T_ins j pc = some (.ladd, 1)) (k : am_wp X d j (pc + 1) ls (.long (x + y) :: st) σ Q) : am_wp X d j pc ls (.long y :: .long x :: st) σ Q := Eq.mpr (am_wp_pi hi rfl) k
theorem g_lsub {x y : Int64} (hi : T_ins j pc = some (.lsub, 1)) (k : am_wp X d j (pc + 1) ls (.long (x - y) :: st) σ Q) : am_wp X d j pc ls (.long y :: .long x :: st) σ Q := Eq.mpr (am_wp_pi hi rfl) k
theorem g_lmul {x y : Int64} (hi : T_ins j pc = some (.lmul, 1)) (k : am_wp X d j (pc + 1) ls (.long (x * y) :: st) σ Q) : am_wp X d j pc ls (.long y :: .long x :: st) σ Q := Eq.mpr (am_wp_pi hi rfl) k
theorem g_land {x y : Int64} (hi : T_ins j pc = some (.land, 1)) (k : am_wp X d j (pc + 1) ls (.long (x &&& y) :: st) σ Q) : am_wp X d j pc ls (.long y :: .long x :: st) σ Q := Eq.mpr (am_wp_pi hi rfl) k
theorem g_lor {x y : Int64} (hi : T_ins j pc = some (.lor, 1)) (k : am_wp X d j (pc + 1) ls (.long (x ||| y) :: st) σ Q) : am_wp X d j pc ls (.long y :: .long x :: st) σ Q := Eq.mpr (am_wp_pi hi rfl) k
theorem g_lcmp {x y : Int64} (hi : T_ins j pc = some (.lcmp, 1)) (k : am_wp X d j (pc + 1) ls (.int (lg_cmp x y) :: st) σ Q) : am_wp X d j pc ls (.long y :: .long x :: st) σ Q := Eq.mpr (am_wp_pi hi rfl) k
theorem g_lshl {x : Int64} {y : Int32} (hi : T_ins j pc = some (.lshl, 1)) (k : am_wp X d j (pc + 1) ls (.long (am_lshl x y) :: st) σ Q) : am_wp X d j pc ls (.int y :: .long x :: st) σ Q := Eq.mpr (am_wp_pi hi rfl) k
theorem g_lshr {x : Int64} {y : Int32} (hi : T_ins j pc = some (.lshr, 1)) (k : am_wp X d j (pc + 1) ls (.long (am_lshr x y) :: st) σ Q) : am_wp X d j pc ls (.int y :: .long x :: st) σ Q := Eq.mpr (am_wp_pi hi rfl) k
theorem g_lushr {x : Int64} {y : Int32} (hi : T_ins j pc = some (.lushr, 1)) (k : am_wp X d j (pc + 1) ls (.long (am_lushr x y) :: st) σ Q) : am_wp X d j pc ls (.int y :: .long x :: st) σ Q := Eq.mpr (am_wp_pi hi rfl) k
theorem g_null (hi : T_ins j pc = some (.aconst_null, 1)) (k : am_wp X d j (pc + 1) ls (.null :: st) σ Q) : am_wp X d j pc ls st σ Q := Eq.mpr (am_wp_pi hi rfl) k
end AMH
