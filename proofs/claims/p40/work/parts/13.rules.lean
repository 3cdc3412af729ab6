/-! A RULE AN INSTRUCTION, for runs of the abstract machine -/
theorem am_cat_int (x : Int32) : (Value.int x).category = 1 := rfl
theorem am_cat_ref (x : Nat) : (Value.ref x).category = 1 := rfl
theorem am_cat_null : Value.null.category = 1 := rfl
theorem am_cat_uv : am_uv.category = 1 := rfl
theorem am_cat_rf (r : Option Nat) : (va_rf r).category = 1 := by cases r <;> rfl
section AMU
variable {X : am_X} {d j pc : Nat} {ls st : List Value} {σ : am_M} {Q : Option Value → am_M → Prop}
theorem r_ic {z : Int} {v : Int32} (hi : T_ins j pc = some (.iconst z, 1)) (hv : Int32.ofInt z = v) : am_wp X d j pc ls st σ Q = am_wp X d j (pc + 1) ls (.int v :: st) σ Q := by
  subst hv
  exact am_wp_pi hi rfl
theorem r_bp {z : Int} {v : Int32} (hi : T_ins j pc = some (.bipush z, 2)) (hv : (Int8.ofInt z).toInt32 = v) : am_wp X d j pc ls st σ Q = am_wp X d j (pc + 2) ls (.int v :: st) σ Q := by
  subst hv
  exact am_wp_pi hi rfl
theorem r_sp {z : Int} {v : Int32} (hi : T_ins j pc = some (.sipush z, 3)) (hv : (Int16.ofInt z).toInt32 = v) : am_wp X d j pc ls st σ Q = am_wp X d j (pc + 3) ls (.int v :: st) σ Q := by
  subst hv
  exact am_wp_pi hi rfl
theorem r_lc {z : Fin 2} {v : Int64} (hi : T_ins j pc = some (.lconst z, 1)) (hv : Int64.ofNat (z : Nat) = v) : am_wp X d j pc ls st σ Q = am_wp X d j (pc + 1) ls (.long v :: st) σ Q := by
  subst hv
  exact am_wp_pi hi rfl
theorem r_ldc {k p : Nat} {v : Int32} (hi : T_ins j pc = some (.ldc k, 2)) (hk : T_cst (T_own j) k = some (v, p)) : am_wp X d j pc ls st σ Q = am_wp X d j (pc + 2) ls (.int v :: st) σ Q := am_wp_pi hi (by show Option.map _ _ = _; rw [hk]; rfl)
theorem r_ldcw {k p : Nat} {v : Int32} (hi : T_ins j pc = some (.ldc_w k, 3)) (hk : T_cst (T_own j) k = some (v, p)) : am_wp X d j pc ls st σ Q = am_wp X d j (pc + 3) ls (.int v :: st) σ Q := am_wp_pi hi (by show Option.map _ _ = _; rw [hk]; rfl)
theorem r_ldc2 {k p : Nat} {v : Int64} (hi : T_ins j pc = some (.ldc2_w k, 3)) (hk : T_csl (T_own j) k = some (v, p)) : am_wp X d j pc ls st σ Q = am_wp X d j (pc + 3) ls (.long v :: st) σ Q := am_wp_pi hi (by show Option.map _ _ = _; rw [hk]; rfl)
theorem am_s1_at {i : Nat} {v : Value} (h1 : i < ls.length) (h2 : i = 0 ∨ (ls.getD (i - 1) am_uv).category = 1) : am_s1 ls i v = some (ls.set i v) := if_pos ⟨h1, h2⟩
theorem am_s2_at {i : Nat} {v : Value} (h1 : i + 1 < ls.length) (h2 : i = 0 ∨ (ls.getD (i - 1) am_uv).category = 1) : am_s2 ls i v = some ((ls.set i v).set (i + 1) am_uv) := if_pos ⟨h1, h2⟩
theorem r_is {i : Nat} {ii : Instr} {n : Nat} {x : Int32} (hi : T_ins j pc = some (ii, n)) (hp : am_pi (T_own j) ii ls (.int x :: st) = am_sti ls i n (.int x :: st)) (h1 : i < ls.length) (h2 : i = 0 ∨ (ls.getD (i - 1) am_uv).category = 1) : am_wp X d j pc ls (.int x :: st) σ Q = am_wp X d j (pc + n) (ls.set i (.int x)) st σ Q := am_wp_pi hi (by rw [hp]; show Option.map _ (am_s1 ls i (.int x)) = _; rw [am_s1_at h1 h2]; rfl)
theorem r_ls {i : Nat} {ii : Instr} {n : Nat} {x : Int64} (hi : T_ins j pc = some (ii, n)) (hp : am_pi (T_own j) ii ls (.long x :: st) = am_stl ls i n (.long x :: st)) (h1 : i + 1 < ls.length) (h2 : i = 0 ∨ (ls.getD (i - 1) am_uv).category = 1) : am_wp X d j pc ls (.long x :: st) σ Q = am_wp X d j (pc + n) ((ls.set i (.long x)).set (i + 1) am_uv) st σ Q := am_wp_pi hi (by rw [hp]; show Option.map _ (am_s2 ls i (.long x)) = _; rw [am_s2_at h1 h2]; rfl)
theorem r_as {i : Nat} {ii : Instr} {n : Nat} {x : Option Nat} (hi : T_ins j pc = some (ii, n)) (hp : ∀ v : Value, am_pi (T_own j) ii ls (v :: st) = am_sta ls i n (v :: st)) (h1 : i < ls.length) (h2 : i = 0 ∨ (ls.getD (i - 1) am_uv).category = 1) : am_wp X d j pc ls (va_rf x :: st) σ Q = am_wp X d j (pc + n) (ls.set i (va_rf x)) st σ Q := am_wp_pi hi (by
  rw [hp]
  cases x with
  | none => show Option.map _ (am_s1 ls i .null) = _; rw [am_s1_at h1 h2]; rfl
  | some x => show Option.map _ (am_s1 ls i (.ref x)) = _; rw [am_s1_at h1 h2]; rfl)
theorem r_asr {i : Nat} {ii : Instr} {n : Nat} {x : Nat} (hi : T_ins j pc = some (ii, n)) (hp : ∀ v : Value, am_pi (T_own j) ii ls (v :: st) = am_sta ls i n (v :: st)) (h1 : i < ls.length) (h2 : i = 0 ∨ (ls.getD (i - 1) am_uv).category = 1) : am_wp X d j pc ls (.ref x :: st) σ Q = am_wp X d j (pc + n) (ls.set i (.ref x)) st σ Q := r_as (x := some x) hi hp h1 h2
theorem r_al {i : Nat} {ii : Instr} {n : Nat} {x : Option Nat} (hi : T_ins j pc = some (ii, n)) (hp : am_pi (T_own j) ii ls st = am_lda ls i n st) (h1 : ls.getD i am_uv = va_rf x) : am_wp X d j pc ls st σ Q = am_wp X d j (pc + n) ls (va_rf x :: st) σ Q := am_wp_pi hi (by
  rw [hp]
  unfold am_lda
  rw [h1]
  cases x <;> rfl)
theorem r_inc {i : Nat} {z : Int} {x v : Int32} (hi : T_ins j pc = some (.iinc i z, 3)) (hx : ls.getD i am_uv = .int x) (h1 : i < ls.length) (h2 : i = 0 ∨ (ls.getD (i - 1) am_uv).category = 1) (hv : Int32.ofInt z = v) : am_wp X d j pc ls st σ Q = am_wp X d j (pc + 3) (ls.set i (.int (x + v))) st σ Q := am_wp_pi hi (by
  subst hv
  show am_inc ls i z st = _
  unfold am_inc
  rw [hx]
  show Option.map _ (am_s1 ls i _) = _
  rw [am_s1_at h1 h2]
  rfl)
theorem r_dup {v : Value} (hi : T_ins j pc = some (.dup, 1)) (h : v.category = 1) : am_wp X d j pc ls (v :: st) σ Q = am_wp X d j (pc + 1) ls (v :: v :: st) σ Q := am_wp_pi hi (if_pos h)
theorem r_dup2 {v w : Value} (hi : T_ins j pc = some (.dup2, 1)) (h : v.category = 1) (h' : w.category = 1) : am_wp X d j pc ls (v :: w :: st) σ Q = am_wp X d j (pc + 1) ls (v :: w :: v :: w :: st) σ Q := am_wp_pi hi (if_pos ⟨h, h'⟩)
theorem r_pop {v : Value} (hi : T_ins j pc = some (.pop, 1)) (h : v.category = 1) : am_wp X d j pc ls (v :: st) σ Q = am_wp X d j (pc + 1) ls st σ Q := am_wp_pi hi (if_pos h)
theorem r_pop2 {v : Value} (hi : T_ins j pc = some (.pop2, 1)) (h : v.category = 2) : am_wp X d j pc ls (v :: st) σ Q = am_wp X d j (pc + 1) ls st σ Q := am_wp_pi hi (if_pos h)
theorem r_div {x y : Int32} (hi : T_ins j pc = some (.idiv, 1)) (h : ¬ y = 0) : am_wp X d j pc ls (.int y :: .int x :: st) σ Q = am_wp X d j (pc + 1) ls (.int (x / y) :: st) σ Q := am_wp_pi hi (if_neg h)
theorem r_rem {x y : Int32} (hi : T_ins j pc = some (.irem, 1)) (h : ¬ y = 0) : am_wp X d j pc ls (.int y :: .int x :: st) σ Q = am_wp X d j (pc + 1) ls (.int (x - x / y * y) :: st) σ Q := am_wp_pi hi (if_neg h)
-- branches
theorem r_eq {off : Int} {t : Nat} {x : Int32} (hi : T_ins j pc = some (.ifCond .eq off, 3)) (ht : (pc : Int) + off = (t : Int)) : am_wp X d j pc ls (.int x :: st) σ Q = if x = 0 then am_wp X d j t ls st σ Q else am_wp X d j (pc + 3) ls st σ Q := (am_wp_bi hi rfl rfl ht).trans (by simp only [am_c1, decide_eq_true_eq])
theorem r_ne {off : Int} {t : Nat} {x : Int32} (hi : T_ins j pc = some (.ifCond .ne off, 3)) (ht : (pc : Int) + off = (t : Int)) : am_wp X d j pc ls (.int x :: st) σ Q = if x = 0 then am_wp X d j (pc + 3) ls st σ Q else am_wp X d j t ls st σ Q := (am_wp_bi hi rfl rfl ht).trans (by by_cases h : x = 0 <;> simp [am_c1, h])
theorem r_lt {off : Int} {t : Nat} {x : Int32} (hi : T_ins j pc = some (.ifCond .lt off, 3)) (ht : (pc : Int) + off = (t : Int)) : am_wp X d j pc ls (.int x :: st) σ Q = if x < 0 then am_wp X d j t ls st σ Q else am_wp X d j (pc + 3) ls st σ Q := (am_wp_bi hi rfl rfl ht).trans (by simp only [am_c1, decide_eq_true_eq])
theorem r_ge {off : Int} {t : Nat} {x : Int32} (hi : T_ins j pc = some (.ifCond .ge off, 3)) (ht : (pc : Int) + off = (t : Int)) : am_wp X d j pc ls (.int x :: st) σ Q = if 0 ≤ x then am_wp X d j t ls st σ Q else am_wp X d j (pc + 3) ls st σ Q := (am_wp_bi hi rfl rfl ht).trans (by simp only [am_c1, decide_eq_true_eq])
theorem r_gt {off : Int} {t : Nat} {x : Int32} (hi : T_ins j pc = some (.ifCond .gt off, 3)) (ht : (pc : Int) + off = (t : Int)) : am_wp X d j pc ls (.int x :: st) σ Q = if 0 < x then am_wp X d j t ls st σ Q else am_wp X d j (pc + 3) ls st σ Q := (am_wp_bi hi rfl rfl ht).trans (by simp only [am_c1, decide_eq_true_eq])
theorem r_le {off : Int} {t : Nat} {x : Int32} (hi : T_ins j pc = some (.ifCond .le off, 3)) (ht : (pc : Int) + off = (t : Int)) : am_wp X d j pc ls (.int x :: st) σ Q = if x ≤ 0 then am_wp X d j t ls st σ Q else am_wp X d j (pc + 3) ls st σ Q := (am_wp_bi hi rfl rfl ht).trans (by simp only [am_c1, decide_eq_true_eq])
theorem r_ceq {off : Int} {t : Nat} {x y : Int32} (hi : T_ins j pc = some (.if_icmp .eq off, 3)) (ht : (pc : Int) + off = (t : Int)) : am_wp X d j pc ls (.int y :: .int x :: st) σ Q = if x = y then am_wp X d j t ls st σ Q else am_wp X d j (pc + 3) ls st σ Q := (am_wp_bi hi rfl rfl ht).trans (by simp only [am_c2, decide_eq_true_eq])
theorem r_cne {off : Int} {t : Nat} {x y : Int32} (hi : T_ins j pc = some (.if_icmp .ne off, 3)) (ht : (pc : Int) + off = (t : Int)) : am_wp X d j pc ls (.int y :: .int x :: st) σ Q = if x = y then am_wp X d j (pc + 3) ls st σ Q else am_wp X d j t ls st σ Q := (am_wp_bi hi rfl rfl ht).trans (by by_cases h : x = y <;> simp [am_c2, h])
theorem r_clt {off : Int} {t : Nat} {x y : Int32} (hi : T_ins j pc = some (.if_icmp .lt off, 3)) (ht : (pc : Int) + off = (t : Int)) : am_wp X d j pc ls (.int y :: .int x :: st) σ Q = if x < y then am_wp X d j t ls st σ Q else am_wp X d j (pc + 3) ls st σ Q := (am_wp_bi hi rfl rfl ht).trans (by simp only [am_c2, decide_eq_true_eq])
theorem r_cge {off : Int} {t : Nat} {x y : Int32} (hi : T_ins j pc = some (.if_icmp .ge off, 3)) (ht : (pc : Int) + off = (t : Int)) : am_wp X d j pc ls (.int y :: .int x :: st) σ Q = if y ≤ x then am_wp X d j t ls st σ Q else am_wp X d j (pc + 3) ls st σ Q := (am_wp_bi hi rfl rfl ht).trans (by simp only [am_c2, decide_eq_true_eq])
theorem r_cgt {off : Int} {t : Nat} {x y : Int32} (hi : T_ins j pc = some (.if_icmp .gt off, 3)) (ht : (pc : Int) + off = (t : Int)) : am_wp X d j pc ls (.int y :: .int x :: st) σ Q = if y < x then am_wp X d j t ls st σ Q else am_wp X d j (pc + 3) ls st σ Q := (am_wp_bi hi rfl rfl ht).trans (by simp only [am_c2, decide_eq_true_eq])
theorem r_cle {off : Int} {t : Nat} {x y : Int32} (hi : T_ins j pc = some (.if_icmp .le off, 3)) (ht : (pc : Int) + off = (t : Int)) : am_wp X d j pc ls (.int y :: .int x :: st) σ Q = if x ≤ y then am_wp X d j t ls st σ Q else am_wp X d j (pc + 3) ls st σ Q := (am_wp_bi hi rfl rfl ht).trans (by simp only [am_c2, decide_eq_true_eq])
theorem r_go {off : Int} {t : Nat} (hi : T_ins j pc = some (.goto off, 3)) (ht : (pc : Int) + off = (t : Int)) : am_wp X d j pc ls st σ Q = am_wp X d j t ls st σ Q := (am_wp_bi hi rfl rfl ht).trans (if_pos rfl)
theorem r_nul {off : Int} {t : Nat} {x : Option Nat} (hi : T_ins j pc = some (.ifnull off, 3)) (ht : (pc : Int) + off = (t : Int)) : am_wp X d j pc ls (va_rf x :: st) σ Q = if x = none then am_wp X d j t ls st σ Q else am_wp X d j (pc + 3) ls st σ Q := by
  cases x with
  | none => exact (am_wp_bi (st := .null :: st) (c := true) (st' := st) hi rfl rfl ht).trans ((if_pos rfl).trans (if_pos rfl).symm)
  | some x => exact (am_wp_bi (st := .ref x :: st) (c := false) (st' := st) hi rfl rfl ht).trans ((if_neg (by decide)).trans (if_neg (show ¬ (some x = none) from fun h => by cases h)).symm)
theorem r_nnl {off : Int} {t : Nat} {x : Option Nat} (hi : T_ins j pc = some (.ifnonnull off, 3)) (ht : (pc : Int) + off = (t : Int)) : am_wp X d j pc ls (va_rf x :: st) σ Q = if x = none then am_wp X d j (pc + 3) ls st σ Q else am_wp X d j t ls st σ Q := by
  cases x with
  | none => exact (am_wp_bi (st := .null :: st) (c := false) (st' := st) hi rfl rfl ht).trans ((if_neg (by decide)).trans (if_pos rfl).symm)
  | some x => exact (am_wp_bi (st := .ref x :: st) (c := true) (st' := st) hi rfl rfl ht).trans ((if_pos rfl).trans (if_neg (show ¬ (some x = none) from fun h => by cases h)).symm)
-- the memory
variable {K : List (Nat × Nat)} {I : Nat → Nat → Int32} {J : Nat → Nat → Int64} {P : List (List (Option Nat))} {sl : Nat}
theorem r_get {k ci f p a : Nat} {v : Value} (hi : T_ins j pc = some (.getfield k, 3)) (hf : T_fld (T_own j) k = some (ci, f, p)) (hv : am_fa (K, I, J, P, sl) a f (am_ty ci f) = v) (hk : K[a]? = some (ci, am_nf ci)) : am_wp X d j pc ls (.ref a :: st) (K, I, J, P, sl) Q = am_wp X d j (pc + 3) ls (v :: st) (K, I, J, P, sl) Q := by
  subst hv
  refine am_wp_rd hi rfl rfl rfl ?_
  unfold am_rd
  try dsimp only
  rw [hf]
  try dsimp only
  rw [if_pos hk]
theorem r_put {k ci f p a : Nat} {v : Value} {σ' : am_M} (hi : T_ins j pc = some (.putfield k, 3)) (hf : T_fld (T_own j) k = some (ci, f, p)) (hk : K[a]? = some (ci, am_nf ci)) (hn : ((am_C ci).2.1 f).2.2.2 = false ∨ (T_ini j = 1 ∧ ((am_C ci).2.1 f).1 = T_R (T_own j))) (hv : am_pf (K, I, J, P, sl) a f (am_ty ci f) v = some σ') : am_wp X d j pc ls (v :: .ref a :: st) (K, I, J, P, sl) Q = am_wp X d j (pc + 3) ls st σ' Q := by
  refine am_wp_wr hi rfl rfl rfl rfl ?_
  unfold am_wr
  try dsimp only
  rw [hf]
  try dsimp only
  rw [if_pos ⟨hk, hn⟩, hv]
  rfl
theorem r_ial {a n : Nat} {x : Int32} (hi : T_ins j pc = some (.iaload, 1)) (ha : a ≠ am_scr) (hk : K[a]? = some (50, n)) (hx : ¬ (x < 0 ∨ n ≤ x.toNatClampNeg)) : am_wp X d j pc ls (.int x :: .ref a :: st) (K, I, J, P, sl) Q = am_wp X d j (pc + 1) ls (.int (I a x.toNatClampNeg) :: st) (K, I, J, P, sl) Q := by
  refine am_wp_rd hi rfl rfl rfl ?_
  unfold am_rd
  try dsimp only
  rw [if_neg ha, hk]
  exact if_pos hx
theorem r_sal {x : Int32} {Y : Nat × (Nat → Int32)} (hi : T_ins j pc = some (.iaload, 1)) (hX : X = some Y) (hx : ¬ (x < 0 ∨ Y.1 ≤ x.toNatClampNeg)) : am_wp X d j pc ls (.int x :: .ref am_scr :: st) σ Q = am_wp X d j (pc + 1) ls (.int (Y.2 x.toNatClampNeg) :: st) σ Q := by
  refine am_wp_rd hi rfl rfl rfl ?_
  unfold am_rd
  try dsimp only
  rw [if_pos rfl, hX]
  try dsimp only
  rw [if_pos hx]
theorem r_bal {a n : Nat} {x : Int32} (hi : T_ins j pc = some (.baload, 1)) (hk : K[a]? = some (51, n)) (hx : ¬ (x < 0 ∨ n ≤ x.toNatClampNeg)) : am_wp X d j pc ls (.int x :: .ref a :: st) (K, I, J, P, sl) Q = am_wp X d j (pc + 1) ls (.int (I a x.toNatClampNeg) :: st) (K, I, J, P, sl) Q := by
  refine am_wp_rd hi rfl rfl rfl ?_
  unfold am_rd
  try dsimp only
  rw [hk]
  exact if_pos hx
theorem r_aal {a c n : Nat} {x : Int32} (hi : T_ins j pc = some (.aaload, 1)) (hk : K[a]? = some (c, n)) (hc : 52 ≤ c ∧ c < 52 + T_arr.length) (hx : ¬ (x < 0 ∨ n ≤ x.toNatClampNeg)) : am_wp X d j pc ls (.int x :: .ref a :: st) (K, I, J, P, sl) Q = am_wp X d j (pc + 1) ls (va_rf (am_pg P a x.toNatClampNeg) :: st) (K, I, J, P, sl) Q := by
  refine am_wp_rd hi rfl rfl rfl ?_
  unfold am_rd
  try dsimp only
  rw [hk]
  try dsimp only
  rw [if_pos ⟨hc.1, hc.2, hx⟩]
theorem r_len {a c n : Nat} (hi : T_ins j pc = some (.arraylength, 1)) (ha : a ≠ am_scr) (hk : K[a]? = some (c, n)) (hc : 50 ≤ c ∧ c < 52 + T_arr.length) : am_wp X d j pc ls (.ref a :: st) (K, I, J, P, sl) Q = am_wp X d j (pc + 1) ls (.int (Int32.ofNat n) :: st) (K, I, J, P, sl) Q := by
  refine am_wp_rd hi rfl rfl rfl ?_
  unfold am_rd
  try dsimp only
  rw [if_neg ha, hk]
  try dsimp only
  rw [if_pos hc]
theorem r_slen {Y : Nat × (Nat → Int32)} (hi : T_ins j pc = some (.arraylength, 1)) (hX : X = some Y) : am_wp X d j pc ls (.ref am_scr :: st) σ Q = am_wp X d j (pc + 1) ls (.int (Int32.ofNat Y.1) :: st) σ Q := by
  refine am_wp_rd hi rfl rfl rfl ?_
  unfold am_rd
  try dsimp only
  rw [if_pos rfl, hX]
  rfl
theorem r_ias {a n : Nat} {x v : Int32} (hi : T_ins j pc = some (.iastore, 1)) (hk : K[a]? = some (50, n)) (hx : ¬ (x < 0 ∨ n ≤ x.toNatClampNeg)) : am_wp X d j pc ls (.int v :: .int x :: .ref a :: st) (K, I, J, P, sl) Q = am_wp X d j (pc + 1) ls st (K, am_up I a x.toNatClampNeg v, J, P, sl) Q := by
  refine am_wp_wr hi rfl rfl rfl rfl ?_
  unfold am_wr
  try dsimp only
  rw [hk]
  exact if_pos hx
theorem r_bas {a n : Nat} {x v : Int32} (hi : T_ins j pc = some (.bastore, 1)) (hk : K[a]? = some (51, n)) (hx : ¬ (x < 0 ∨ n ≤ x.toNatClampNeg)) (hv : v = 0 ∨ v = 1) : am_wp X d j pc ls (.int v :: .int x :: .ref a :: st) (K, I, J, P, sl) Q = am_wp X d j (pc + 1) ls st (K, am_up I a x.toNatClampNeg v, J, P, sl) Q := by
  refine am_wp_wr hi rfl rfl rfl rfl ?_
  unfold am_wr
  try dsimp only
  rw [hk]
  exact if_pos ⟨hx, hv⟩
-- calls
theorem r_cs {k kd m n : Nat} {pp : Nat × Nat × Nat × Nat} {as r : List Value} (hi : T_ins j pc = some (.invokestatic k, 3)) (hc : T_call (T_own j) k = some (kd, m, n, pp)) (hk : kd ≤ 1) (h1 : st.take n = as) (h2 : st.drop n = r) (hn : n ≤ st.length) (hr : (r.map fun v => v.category).sum ≤ 8) (hfl : (am_fl as.reverse).length ≤ T_mxl m) :
    am_wp X (d + 1) j pc ls st σ Q = am_wp X d m 0 (am_en (T_mxl m) as.reverse) [] σ (fun v σ' => am_wp X (d + 1) j (pc + 3) ls (v.toList ++ r) σ' Q) := by
  subst h1
  subst h2
  refine am_wp_ca hi rfl rfl rfl rfl rfl rfl ?_ hfl
  unfold am_ca
  try dsimp only
  rw [hc]
  try dsimp only
  rw [if_pos ⟨hk, hn, hr⟩]
theorem r_cv {k m n a : Nat} {pp : Nat × Nat × Nat × Nat} {as r : List Value} (hi : T_ins j pc = some (.invokevirtual k, 3)) (hc : T_call (T_own j) k = some (2, m, n, pp)) (h1 : st.take n = as) (h2 : st.drop n = .ref a :: r) (hn : n ≤ st.length) (hr : (r.map fun v => v.category).sum ≤ 8) (ha : σ.1[a]? = some (T_own m, am_nf (T_own m))) (hfl : (am_fl (.ref a :: as.reverse)).length ≤ T_mxl m) :
    am_wp X (d + 1) j pc ls st σ Q = am_wp X d m 0 (am_en (T_mxl m) (.ref a :: as.reverse)) [] σ (fun v σ' => am_wp X (d + 1) j (pc + 3) ls (v.toList ++ r) σ' Q) := by
  subst h1
  refine am_wp_ca hi rfl rfl rfl rfl rfl rfl ?_ hfl
  unfold am_ca
  try dsimp only
  rw [hc]
  try dsimp only
  rw [h2]
  try dsimp only
  rw [if_pos ⟨rfl, hn, hr, ha⟩]
theorem r_ci {k kd m n a : Nat} {pp : Nat × Nat × Nat × Nat} {as r : List Value} (hi : T_ins j pc = some (.invokespecial k, 3)) (hc : T_call (T_own j) k = some (kd, m, n, pp)) (hk : kd = 4 ∨ kd = 5) (h1 : st.take n = as) (h2 : st.drop n = .ref a :: r) (hn : n ≤ st.length) (hr : (r.map fun v => v.category).sum ≤ 8) (ha : a ≠ am_scr) (hfl : (am_fl (.ref a :: as.reverse)).length ≤ T_mxl m) :
    am_wp X (d + 1) j pc ls st σ Q = am_wp X d m 0 (am_en (T_mxl m) (.ref a :: as.reverse)) [] σ (fun v σ' => am_wp X (d + 1) j (pc + 3) ls (v.toList ++ r) σ' Q) := by
  subst h1
  refine am_wp_ca hi rfl rfl rfl rfl rfl rfl ?_ hfl
  unfold am_ca
  try dsimp only
  rw [hc]
  try dsimp only
  rw [h2]
  try dsimp only
  rw [if_pos ⟨hn, hr, ha⟩, if_pos hk]
theorem r_max {k : Nat} {pp : Nat × Nat × Nat × Nat × Nat × Nat} {x y : Int32} (hi : T_ins j pc = some (.invokestatic k, 3)) (hc : T_call (T_own j) k = some (7, pp)) (hr : (st.map fun v => v.category).sum ≤ 8) : am_wp X (d + 1) j pc ls (.int y :: .int x :: st) σ Q = am_wp X (d + 1) j (pc + 3) ls (.int (if x < y then y else x) :: st) σ Q := by
  refine am_wp_ma hi rfl rfl rfl rfl rfl rfl ?_ ?_
  · unfold am_ca
    try dsimp only
    rw [hc]
    exact if_neg (fun h => absurd h.1 (by decide))
  · unfold am_ma
    try dsimp only
    rw [hc]
    try dsimp only
    rw [if_pos rfl, if_pos hr]
theorem r_min {k : Nat} {pp : Nat × Nat × Nat × Nat × Nat × Nat} {x y : Int32} (hi : T_ins j pc = some (.invokestatic k, 3)) (hc : T_call (T_own j) k = some (8, pp)) (hr : (st.map fun v => v.category).sum ≤ 8) : am_wp X (d + 1) j pc ls (.int y :: .int x :: st) σ Q = am_wp X (d + 1) j (pc + 3) ls (.int (if y < x then y else x) :: st) σ Q := by
  refine am_wp_ma hi rfl rfl rfl rfl rfl rfl ?_ ?_
  · unfold am_ca
    try dsimp only
    rw [hc]
    exact if_neg (fun h => absurd h.1 (by decide))
  · unfold am_ma
    try dsimp only
    rw [hc]
    try dsimp only
    rw [if_neg (by decide), if_pos rfl, if_pos hr]
theorem r_abs {k : Nat} {pp : Nat × Nat × Nat × Nat × Nat × Nat} {x : Int32} (hi : T_ins j pc = some (.invokestatic k, 3)) (hc : T_call (T_own j) k = some (9, pp)) (hr : (st.map fun v => v.category).sum ≤ 8) : am_wp X (d + 1) j pc ls (.int x :: st) σ Q = am_wp X (d + 1) j (pc + 3) ls (.int (if 0 ≤ x then x else 0 - x) :: st) σ Q := by
  refine am_wp_ma hi rfl rfl rfl rfl rfl rfl ?_ ?_
  · unfold am_ca
    try dsimp only
    rw [hc]
    exact if_neg (fun h => absurd h.1 (by decide))
  · unfold am_ma
    try dsimp only
    rw [hc]
    try dsimp only
    rw [if_neg (by decide), if_neg (by decide), if_pos rfl, if_pos hr]
-- ends
theorem r_iret {v : Int32} (hi : T_ins j pc = some (.ireturn, 1)) (hr : T_ret j = some .int) : am_wp X d j pc ls [.int v] σ Q = Q (some (.int v)) σ := am_wp_rt hi rfl rfl rfl rfl rfl rfl rfl rfl (if_pos (Or.inl hr))
theorem r_zret {v : Int32} (hi : T_ins j pc = some (.ireturn, 1)) (hr : T_ret j = some .boolean) (hv : v = 0 ∨ v = 1) : am_wp X d j pc ls [.int v] σ Q = Q (some (.int v)) σ := am_wp_rt hi rfl rfl rfl rfl rfl rfl rfl rfl (if_pos (Or.inr ⟨hr, hv⟩))
theorem r_lret {v : Int64} (hi : T_ins j pc = some (.lreturn, 1)) (hr : T_ret j = some .long) : am_wp X d j pc ls [.long v] σ Q = Q (some (.long v)) σ := am_wp_rt hi rfl rfl rfl rfl rfl rfl rfl rfl (if_pos hr)
theorem r_vret (hi : T_ins j pc = some (.return_, 1)) (hr : T_ret j = none) : am_wp X d j pc ls [] σ Q = Q none σ := am_wp_rt hi rfl rfl rfl rfl rfl rfl rfl rfl (if_pos hr)
theorem r_aret {v : Option Nat} {C : String} (hi : T_ins j pc = some (.areturn, 1)) (hr : T_ret j = some (.object C)) : am_wp X d j pc ls [va_rf v] σ Q = Q (some (va_rf v)) σ := by
  cases v with
  | none => exact am_wp_rt hi rfl rfl rfl rfl rfl rfl rfl rfl (by unfold am_rt; rw [hr]; rfl)
  | some v => exact am_wp_rt hi rfl rfl rfl rfl rfl rfl rfl rfl (by unfold am_rt; rw [hr]; rfl)
end AMU
