/-! SETS OF REPORTS as a long's bits -/
def tl (x : Int64) (i : Nat) : Bool := x.toBitVec.getLsbD i
theorem tl_ext {x y : Int64} (h : ∀ i, i < 64 → tl x i = tl y i) : x = y := Int64.toBitVec_inj.mp (BitVec.eq_of_getLsbD_eq (fun i hi => h i hi))
theorem tl_or (x y : Int64) (i : Nat) : tl (x ||| y) i = (tl x i || tl y i) := by unfold tl; rw [Int64.toBitVec_or, BitVec.getLsbD_or]
theorem tl_and (x y : Int64) (i : Nat) : tl (x &&& y) i = (tl x i && tl y i) := by unfold tl; rw [Int64.toBitVec_and, BitVec.getLsbD_and]
theorem tl_0 (i : Nat) : tl 0 i = false := BitVec.getLsbD_zero
theorem tl_1 : ∀ i, i < 64 → tl 1 i = decide (i = 0) := by decide +kernel
theorem tl_big {x : Int64} {i : Nat} (h : 64 ≤ i) : tl x i = false := BitVec.getLsbD_of_ge _ _ h
theorem tl_sl : ∀ n, n < 64 → (((Int32.ofNat n).toInt64 &&& 63).toBitVec.smod 64).toNat = n := by decide +kernel
theorem tl_shl {n : Nat} (hn : n < 64) (x : Int64) {i : Nat} (hi : i < 64) : tl (am_lshl x (Int32.ofNat n)) i = (decide (n ≤ i) && tl x (i - n)) := by
  unfold tl am_lshl
  rw [Int64.toBitVec_shiftLeft]
  show (x.toBitVec <<< (((Int32.ofNat n).toInt64 &&& 63).toBitVec.smod 64).toNat).getLsbD i = _
  rw [tl_sl n hn, BitVec.getLsbD_shiftLeft]
  rcases Nat.lt_or_ge i n with h | h
  · simp [h, Nat.not_le.mpr h]
  · simp [hi, h, Nat.not_lt.mpr h]
theorem tl_shr {n : Nat} (hn : n < 64) (x : Int64) {i : Nat} (hi : i < 64) : tl (am_lshr x (Int32.ofNat n)) i = if n + i < 64 then tl x (n + i) else tl x 63 := by
  unfold tl am_lshr
  rw [Int64.toBitVec_shiftRight]
  show (x.toBitVec.sshiftRight (((Int32.ofNat n).toInt64 &&& 63).toBitVec.smod 64).toNat).getLsbD i = _
  rw [tl_sl n hn, BitVec.getLsbD_sshiftRight, BitVec.msb_eq_getLsbD_last]
  simp [hi]
theorem tl_one {n : Nat} (hn : n < 64) {i : Nat} (hi : i < 64) : tl (am_lshl 1 (Int32.ofInt (n : Int))) i = decide (i = n) := by
  rw [← oi_nat, tl_shl hn 1 hi]
  by_cases h : n ≤ i
  · rw [decide_eq_true h, Bool.true_and, tl_1 _ (by omega)]
    by_cases e : i = n
    · rw [decide_eq_true (by omega), decide_eq_true e]
    · rw [decide_eq_false (by omega), decide_eq_false e]
  · rw [decide_eq_false h, Bool.false_and, decide_eq_false (by omega)]
theorem tl_bit (x : Int64) {n : Nat} (hn : n < 64) : (am_lshr x (Int32.ofInt (n : Int)) &&& 1) = if tl x n = true then 1 else 0 := by
  rw [← oi_nat]
  refine tl_ext (fun i hi => ?_)
  rw [tl_and, tl_shr hn x hi, tl_1 i hi]
  by_cases h0 : i = 0
  · subst h0
    rw [if_pos (by omega), decide_eq_true rfl, Bool.and_true, Nat.add_zero]
    cases hb : tl x n
    · rw [if_neg (by decide), tl_0]
    · rw [if_pos rfl]
      rfl
  · rw [decide_eq_false h0, Bool.and_false]
    cases hb : tl x n
    · rw [if_neg (by decide), tl_0]
    · rw [if_pos rfl, tl_1 i hi, decide_eq_false h0]
theorem lgz {x y : Int64} : lg_cmp x y = 0 ↔ x = y := by
  unfold lg_cmp
  by_cases h : x > y
  · rw [if_pos h]
    exact ⟨fun q => absurd q (by decide), fun q => absurd (q ▸ h) (Int64.lt_irrefl)⟩
  · rw [if_neg h]
    by_cases e : x = y
    · rw [if_pos e]
      exact ⟨fun _ => e, fun _ => rfl⟩
    · rw [if_neg e]
      exact ⟨fun q => absurd q (by decide), fun q => absurd q e⟩
theorem tl_test (x : Int64) {n : Nat} (hn : n < 64) : lg_cmp (am_lshr x (Int32.ofInt (n : Int)) &&& 1) 1 = 0 ↔ tl x n = true := by
  rw [lgz, tl_bit x hn]
  cases tl x n
  · exact ⟨fun h => absurd h (by decide), fun h => by cases h⟩
  · exact ⟨fun _ => rfl, fun _ => rfl⟩
/-! how many -/
def nl64 (x : Int64) : Nat := x.toBitVec.toNat
theorem nl_lt (x : Int64) : nl64 x < 18446744073709551616 := x.toBitVec.isLt
theorem nl_and (x y : Int64) : nl64 (x &&& y) = nl64 x &&& nl64 y := by unfold nl64; rw [Int64.toBitVec_and, BitVec.toNat_and]
theorem nl_add {x y : Int64} (h : nl64 x + nl64 y < 18446744073709551616) : nl64 (x + y) = nl64 x + nl64 y := by
  unfold nl64 at h ⊢
  rw [Int64.toBitVec_add, BitVec.toNat_add, Nat.mod_eq_of_lt h]
theorem nl_sub {x y : Int64} (h : nl64 y ≤ nl64 x) : nl64 (x - y) = nl64 x - nl64 y := by
  unfold nl64 at h ⊢
  rw [Int64.toBitVec_sub]
  exact BitVec.toNat_sub_of_le h
theorem tl_su : ∀ n, n < 64 → (((Int32.ofNat n).toInt64.toUInt64 &&& Int64.toUInt64 63).toBitVec % 64).toNat = n := by decide +kernel
theorem nl_ush (x : Int64) {k : Nat} (hk : k < 64) : nl64 (am_lushr x (Int32.ofNat k)) = nl64 x / 2 ^ k := by
  unfold nl64 am_lushr
  show (x.toUInt64 >>> ((Int32.ofNat k).toInt64.toUInt64 &&& Int64.toUInt64 63)).toBitVec.toNat = _
  rw [UInt64.toBitVec_shiftRight]
  show (x.toBitVec >>> (((Int32.ofNat k).toInt64.toUInt64 &&& Int64.toUInt64 63).toBitVec % 64).toNat).toNat = _
  rw [tl_su k hk, BitVec.toNat_ushiftRight, Nat.shiftRight_eq_div_pow]
theorem tl_nl (x : Int64) (i : Nat) : tl x i = (nl64 x).testBit i := rfl
/-- m in each of k bytes -/
def bm (m : Nat) : Nat → Nat
  | 0 => 0
  | k + 1 => m + 256 * bm m k
def q1 (k n : Nat) : Nat := n - (n / 2 &&& bm 85 k)
def q2 (k n : Nat) : Nat := (n &&& bm 51 k) + (n / 4 &&& bm 51 k)
def q3 (k n : Nat) : Nat := (n + n / 16) &&& bm 15 k
theorem q1_s {k a y : Nat} (ha : a < 256) : q1 (k + 1) (a + 256 * y) = pc_1 a + 256 * q1 k y := by
  have e : (a + 256 * y) / 2 &&& bm 85 (k + 1) = (a / 2 &&& 85) + 256 * (y / 2 &&& bm 85 k) := by
    rw [show (a + 256 * y) / 2 = (a / 2 + 128 * (y % 2)) + 256 * (y / 2) by omega]
    show _ &&& (85 + 256 * bm 85 k) = _
    rw [pc_and _ _ _ _ (by omega) (by omega), pc_k1 a ha _ (by omega)]
  have l := (pc_k1l a ha).1
  have l2 : y / 2 &&& bm 85 k ≤ y := Nat.le_trans Nat.and_le_left (Nat.div_le_self _ _)
  unfold q1 pc_1
  rw [e]
  omega
theorem q2_s {k a y : Nat} (ha : a < 256) : q2 (k + 1) (a + 256 * y) = pc_2 a + 256 * q2 k y := by
  have e1 : (a + 256 * y) &&& bm 51 (k + 1) = (a &&& 51) + 256 * (y &&& bm 51 k) := by
    show _ &&& (51 + 256 * bm 51 k) = _
    rw [pc_and _ _ _ _ ha (by omega)]
  have e2 : (a + 256 * y) / 4 &&& bm 51 (k + 1) = (a / 4 &&& 51) + 256 * (y / 4 &&& bm 51 k) := by
    rw [show (a + 256 * y) / 4 = (a / 4 + 64 * (y % 4)) + 256 * (y / 4) by omega]
    show _ &&& (51 + 256 * bm 51 k) = _
    rw [pc_and _ _ _ _ (by omega) (by omega), pc_k2 a ha _ (by omega)]
  unfold q2 pc_2
  rw [e1, e2]
  omega
theorem q3_s {k a y : Nat} (ha : a < 69) (hy : y % 16 < 5) : q3 (k + 1) (a + 256 * y) = pc_3 a + 256 * q3 k y := by
  unfold q3
  rw [show (a + 256 * y) + (a + 256 * y) / 16 = (a + a / 16 + 16 * (y % 16)) + 256 * (y + y / 16) by omega]
  show _ &&& (15 + 256 * bm 15 k) = _
  rw [pc_and _ _ _ _ (by omega) (by omega), pc_k3 a ha _ (by omega)]
theorem pcN_8 {a y : Nat} (ha : a < 256) : ∀ k, pcN (a + 256 * y) (8 + k) = pc_t a + pcN y k := by
  intro k
  induction k with
  | zero =>
    show (((((((0 + (a + 256 * y) / 1 % 2) + (a + 256 * y) / 2 % 2) + (a + 256 * y) / 4 % 2) + (a + 256 * y) / 8 % 2) + (a + 256 * y) / 16 % 2) + (a + 256 * y) / 32 % 2) + (a + 256 * y) / 64 % 2) + (a + 256 * y) / 128 % 2 = pc_t a + 0
    unfold pc_t
    omega
  | succ k ih =>
    show pcN (a + 256 * y) (8 + k) + (a + 256 * y) / 2 ^ (8 + k) % 2 = pc_t a + (pcN y k + y / 2 ^ k % 2)
    rw [ih, Nat.pow_add, ← Nat.div_div_eq_div_mul, show (a + 256 * y) / 2 ^ 8 = y by omega]
    omega
/-- how many of the first k -/
def lcn (x : Int64) : Nat → Nat
  | 0 => 0
  | k + 1 => lcn x k + (if tl x k = true then 1 else 0)
theorem lcn_N (x : Int64) : ∀ k, lcn x k = pcN (nl64 x) k := by
  intro k
  induction k with
  | zero => rfl
  | succ k ih =>
    show lcn x k + (if tl x k = true then 1 else 0) = pcN (nl64 x) k + nl64 x / 2 ^ k % 2
    rw [ih, tl_nl, Nat.testBit_eq_decide_div_mod_eq]
    have h2 : nl64 x / 2 ^ k % 2 < 2 := Nat.mod_lt _ (by decide)
    by_cases h : nl64 x / 2 ^ k % 2 = 1
    · rw [decide_eq_true h, if_pos rfl, h]
    · rw [decide_eq_false h, if_neg (by decide)]
      omega
theorem pc_t8 {a : Nat} : pc_t a ≤ 8 := by
  unfold pc_t
  omega
theorem lbc_fin {a b c d e : Nat} (ha : a ≤ 8) (hb : b ≤ 8) (hc : c ≤ 8) (hd : d ≤ 8) (he : e ≤ 8) : ∀ w v u : Nat, w = a + 256 * (b + 256 * (c + 256 * (d + 256 * e))) → v = w + w / 256 → u = v + v / 65536 → (u + u / 4294967296) % 128 = a + b + c + d + e := by
  intro w v u hw hv hu
  have e1 : v = (a + b) + 256 * ((b + c) + 256 * ((c + d) + 256 * ((d + e) + 256 * e))) := by omega
  have e2 : u = (a + b + (c + d)) + 256 * ((b + c + (d + e)) + 256 * ((c + d + e) + 256 * ((d + e) + 256 * e))) := by omega
  have e3 : u / 4294967296 = e := by omega
  omega
theorem nl_32 {x : Int64} {n : Nat} (h : nl64 x = n) : nt32 (Int64.toInt32 x) = n % 4294967296 := by
  unfold nt32
  rw [Int64.toBitVec_toInt32, BitVec.signExtend_eq_setWidth_of_le _ (by decide), BitVec.toNat_setWidth]
  show nl64 x % 2 ^ 32 = _
  rw [h]
theorem lbc_40 {x : Int64} (h : ∀ i, 40 ≤ i → tl x i = false) : v_lbc x = Int32.ofInt (lcn x 40 : Int) := by
  have hl : nl64 x < 1099511627776 := by
    refine Nat.lt_pow_two_of_testBit (n := 40) _ (fun i hi => ?_)
    rw [← tl_nl]
    exact h i hi
  obtain ⟨a, b, c, d, e, ha, hb, hc, hd, he, en⟩ : ∃ a b c d e, a < 256 ∧ b < 256 ∧ c < 256 ∧ d < 256 ∧ e < 256 ∧ nl64 x = a + 256 * (b + 256 * (c + 256 * (d + 256 * (e + 256 * 0)))) := ⟨nl64 x % 256, nl64 x / 256 % 256, nl64 x / 65536 % 256, nl64 x / 16777216 % 256, nl64 x / 4294967296, by omega, by omega, by omega, by omega, by omega, by omega⟩
  obtain ⟨a1, a2, a3, a4, a5⟩ := pc_ka a ha
  obtain ⟨b1, b2, b3, b4, b5⟩ := pc_ka b hb
  obtain ⟨c1, c2, c3, c4, c5⟩ := pc_ka c hc
  obtain ⟨d1, d2, d3, d4, d5⟩ := pc_ka d hd
  obtain ⟨e1, e2, e3, e4, e5⟩ := pc_ka e he
  have z1 : q1 3 0 = 0 := by decide
  have z2 : q2 3 0 = 0 := by decide
  have z3 : q3 3 0 = 0 := by decide
  rw [lcn_N, en, show (40 : Nat) = 8 + (8 + (8 + (8 + (8 + 0)))) from rfl, pcN_8 ha, pcN_8 hb, pcN_8 hc, pcN_8 hd, pcN_8 he, show pcN 0 0 = 0 from rfl]
  refine nt_inj ?_
  rw [nt_ofI (by omega)]
  unfold v_lbc
  have u : ∀ (y : Int64) (k : Nat), k < 64 → nl64 (am_lushr y (Int32.ofNat k)) = nl64 y / 2 ^ k := fun y k hk => nl_ush y hk
  have s1 : nl64 (x - ((am_lushr x 1) &&& 6148914691236517205)) = pc_1 a + 256 * (pc_1 b + 256 * (pc_1 c + 256 * (pc_1 d + 256 * (pc_1 e + 256 * 0)))) := by
    have e0 : nl64 ((am_lushr x 1) &&& 6148914691236517205) = nl64 x / 2 &&& bm 85 8 := by
      rw [nl_and, show nl64 (am_lushr x 1) = nl64 x / 2 ^ 1 from u x 1 (by decide), show nl64 6148914691236517205 = bm 85 8 by decide]
    have le : nl64 x / 2 &&& bm 85 8 ≤ nl64 x := Nat.le_trans Nat.and_le_left (Nat.div_le_self _ _)
    rw [nl_sub (by rw [e0]; exact le), e0]
    show q1 8 (nl64 x) = _
    rw [en, q1_s ha, q1_s hb, q1_s hc, q1_s hd, q1_s he, z1]
  generalize (x - ((am_lushr x 1) &&& 6148914691236517205)) = y at s1 ⊢
  have s2 : nl64 ((y &&& 3689348814741910323) + ((am_lushr y 2) &&& 3689348814741910323)) = pc_2 (pc_1 a) + 256 * (pc_2 (pc_1 b) + 256 * (pc_2 (pc_1 c) + 256 * (pc_2 (pc_1 d) + 256 * (pc_2 (pc_1 e) + 256 * 0)))) := by
    have m : nl64 3689348814741910323 = bm 51 8 := by decide
    have f1 : nl64 (y &&& 3689348814741910323) = nl64 y &&& bm 51 8 := by rw [nl_and, m]
    have f2 : nl64 ((am_lushr y 2) &&& 3689348814741910323) = nl64 y / 4 &&& bm 51 8 := by
      rw [nl_and, m, show nl64 (am_lushr y 2) = nl64 y / 2 ^ 2 from u y 2 (by decide)]
    have l1 : nl64 y &&& bm 51 8 ≤ nl64 y := Nat.and_le_left
    have l2 : nl64 y / 4 &&& bm 51 8 ≤ nl64 y / 4 := Nat.and_le_left
    rw [nl_add (by rw [f1, f2]; omega), f1, f2]
    show q2 8 (nl64 y) = _
    rw [s1, q2_s a1, q2_s b1, q2_s c1, q2_s d1, q2_s e1, z2]
  generalize ((y &&& 3689348814741910323) + ((am_lushr y 2) &&& 3689348814741910323)) = z at s2 ⊢
  have s3 : nl64 ((z + (am_lushr z 4)) &&& 1085102592571150095) = pc_t a + 256 * (pc_t b + 256 * (pc_t c + 256 * (pc_t d + 256 * (pc_t e + 256 * 0)))) := by
    have f : nl64 (am_lushr z 4) = nl64 z / 16 := u z 4 (by decide)
    rw [nl_and, nl_add (by rw [f, s2]; omega), f, show nl64 1085102592571150095 = bm 15 8 by decide]
    show q3 8 (nl64 z) = _
    rw [s2, q3_s a2 (by omega), q3_s b2 (by omega), q3_s c2 (by omega), q3_s d2 (by omega), q3_s e2 (by omega), z3, a4, b4, c4, d4, e4]
  generalize ((z + (am_lushr z 4)) &&& 1085102592571150095) = w at s3 ⊢
  rw [show pc_t e + 256 * 0 = pc_t e by omega] at s3
  have g1 : nl64 (am_lushr w 8) = nl64 w / 256 := u w 8 (by decide)
  have s4 : nl64 (w + (am_lushr w 8)) = nl64 w + nl64 w / 256 := by rw [nl_add (by rw [g1, s3]; omega), g1]
  generalize (w + (am_lushr w 8)) = v at s4 ⊢
  have g2 : nl64 (am_lushr v 16) = nl64 v / 65536 := u v 16 (by decide)
  have s5 : nl64 (v + (am_lushr v 16)) = nl64 v + nl64 v / 65536 := by rw [nl_add (by rw [g2, s4, s3]; omega), g2]
  generalize (v + (am_lushr v 16)) = t at s5 ⊢
  have g3 : nl64 (am_lushr t 32) = nl64 t / 4294967296 := u t 32 (by decide)
  have s6 : nl64 (t + (am_lushr t 32)) = nl64 t + nl64 t / 4294967296 := by rw [nl_add (by rw [g3, s5, s4, s3]; omega), g3]
  have fin := lbc_fin (pc_t8 (a := a)) (pc_t8 (a := b)) (pc_t8 (a := c)) (pc_t8 (a := d)) (pc_t8 (a := e)) (nl64 w) (nl64 v) (nl64 t) s3 s4 s5
  rw [nt_and, nl_32 s6, show nt32 127 = 2 ^ 7 - 1 from rfl, Nat.and_two_pow_sub_one_eq_mod, show (2 : Nat) ^ 7 = 128 from rfl, Nat.mod_mod_of_dvd _ (by decide), fin]
  omega
theorem c_30 {X : am_X} {d : Nat} {I : Nat → Nat → Int32} {J : Nat → Nat → Int64} {Q : Option Value → am_M → Prop} {x0 : Int32} (k : am_wp X d 30 4 [.ref 87, .int x0, .int 0, .int 0] [] (am_N I J) Q) : am_wp X d 30 0 [.ref 87, .int x0, am_uv, am_uv] [] (am_N I J) Q := s30_0 (s30_1 rfl (s30_2 (s30_3 rfl (k))))
theorem c_31 {X : am_X} {d : Nat} {I : Nat → Nat → Int32} {J : Nat → Nat → Int64} {Q : Option Value → am_M → Prop} {x0 : Int32} (k : am_wp X d 31 5 [.ref 87, .int x0, .long 0, am_uv, .int 0, am_uv] [] (am_N I J) Q) : am_wp X d 31 0 [.ref 87, .int x0, am_uv, am_uv, am_uv, am_uv] [] (am_N I J) Q := s31_0 (s31_1 rfl (s31_2 (s31_3 rfl (k))))
theorem c_34 {X : am_X} {d : Nat} {I : Nat → Nat → Int32} {J : Nat → Nat → Int64} {Q : Option Value → am_M → Prop} {x0 : Int64} {x1 : Int32} (k : am_wp X d 34 6 [.ref 87, .long x0, am_uv, .int x1, .int 0, .int 0] [] (am_N I J) Q) : am_wp X d 34 0 [.ref 87, .long x0, am_uv, .int x1, am_uv, am_uv] [] (am_N I J) Q := s34_0 (s34_1 rfl (s34_3 (s34_4 rfl (k))))
theorem c_30_4 {X : am_X} {d : Nat} {I : Nat → Nat → Int32} {J : Nat → Nat → Int64} {Q : Option Value → am_M → Prop} {x0 n m : Int32} (k : (((I 35 2) ≤ m → Q (some (.int n)) (am_N I J)) ∧ (¬ (I 35 2) ≤ m → (((I 87 5) ≤ n → Q (some (.int n)) (am_N I J)) ∧ (¬ (I 87 5) ≤ n → (am_ix m 40 ∧ (((I (43 + (Int32.toNatClampNeg m)) 4) = 0 → am_wp X d 30 4 [.ref 87, .int x0, .int n, .int (m + 1)] [] (am_N I J) Q) ∧ (¬ (I (43 + (Int32.toNatClampNeg m)) 4) = 0 → (am_ix m 40 ∧ ((((am_shr (I 40 (Int32.toNatClampNeg m)) x0) &&& 1) = 0 → am_wp X d 30 4 [.ref 87, .int x0, .int (n + 1), .int (m + 1)] [] (am_N I J) Q) ∧ (¬ ((am_shr (I 40 (Int32.toNatClampNeg m)) x0) &&& 1) = 0 → am_wp X d 30 4 [.ref 87, .int x0, .int n, .int (m + 1)] [] (am_N I J) Q))))))))))) : am_wp X d 30 4 [.ref 87, .int x0, .int n, .int m] [] (am_N I J) Q := s30_4 (s30_5 (s30_6 k0_87 p0_87_0 (s30_9 k0_35 (s30_12 (fun h3191 => have k := k.1 h3191; s30_63 (s30_64 (k))) (fun h3191 => have k := k.2 h3191; s30_15 (s30_16 (s30_17 k0_87 (s30_20 (fun h3192 => have k := k.1 h3192; s30_63 (s30_64 (k))) (fun h3192 => have k := k.2 h3192; s30_23 (s30_24 k0_87 p0_87_0 (s30_27 k0_35 p0_35_1 (s30_30 (have b3193 := k.1; have k := k.2; s30_31 k0_36 (by decide) b3193 (p0_36 b3193) (s30_32 (k0_R (isR_of b3193)) (s30_35 (fun h3194 => have k := k.1 h3194; s30_57 rfl (s30_60 (k))) (fun h3194 => have k := k.2 h3194; s30_38 (s30_39 k0_87 p0_87_0 (s30_42 k0_35 p0_35_6 (s30_45 (have b3195 := k.1; have k := k.2; s30_46 k0_40 b3195 (s30_47 (s30_48 (s30_49 (s30_50 (s30_51 (fun h3196 => have k := k.1 h3196; s30_54 rfl (s30_57 rfl (s30_60 (k)))) (fun h3196 => have k := k.2 h3196; s30_57 rfl (s30_60 (k))))))))))))))))))))))))))))
theorem c_31_5 {X : am_X} {d : Nat} {I : Nat → Nat → Int32} {J : Nat → Nat → Int64} {Q : Option Value → am_M → Prop} {x0 m : Int32} {c : Int64} {u5 : Value} (hu5 : u5.category = 1) (k : (((I 35 2) ≤ m → Q (some (.long c)) (am_N I J)) ∧ (¬ (I 35 2) ≤ m → (am_ix m 40 ∧ (((I (43 + (Int32.toNatClampNeg m)) 4) = 0 → am_wp X d 31 5 [.ref 87, .int x0, .long c, am_uv, .int (m + 1), .ref (43 + (Int32.toNatClampNeg m))] [] (am_N I J) Q) ∧ (¬ (I (43 + (Int32.toNatClampNeg m)) 4) = 0 → (((I (43 + (Int32.toNatClampNeg m)) 0) = 2 → (am_ix m 40 ∧ ((((am_shr (I 40 (Int32.toNatClampNeg m)) x0) &&& 1) = 1 → am_wp X d 31 5 [.ref 87, .int x0, .long (c ||| (am_lshl 1 m)), am_uv, .int (m + 1), .ref (43 + (Int32.toNatClampNeg m))] [] (am_N I J) Q) ∧ (¬ ((am_shr (I 40 (Int32.toNatClampNeg m)) x0) &&& 1) = 1 → am_wp X d 31 5 [.ref 87, .int x0, .long c, am_uv, .int (m + 1), .ref (43 + (Int32.toNatClampNeg m))] [] (am_N I J) Q)))) ∧ (¬ (I (43 + (Int32.toNatClampNeg m)) 0) = 2 → am_wp X d 31 5 [.ref 87, .int x0, .long c, am_uv, .int (m + 1), .ref (43 + (Int32.toNatClampNeg m))] [] (am_N I J) Q)))))))) : am_wp X d 31 5 [.ref 87, .int x0, .long c, am_uv, .int m, u5] [] (am_N I J) Q := s31_5 (s31_7 (s31_8 k0_87 p0_87_0 (s31_11 k0_35 (s31_14 (fun h3197 => have k := k.1 h3197; s31_77 (s31_78 (k))) (fun h3197 => have k := k.2 h3197; s31_17 (s31_18 k0_87 p0_87_0 (s31_21 k0_35 p0_35_1 (s31_24 (have b3198 := k.1; have k := k.2; s31_26 k0_36 (by decide) b3198 (p0_36 b3198) (s31_27 rfl (s31_29 (s31_31 (k0_R (isR_of b3198)) (s31_34 (fun h3199 => have k := k.1 h3199; s31_71 rfl (s31_74 (k))) (fun h3199 => have k := k.2 h3199; s31_37 (s31_39 (k0_R (isR_of b3198)) (s31_42 (s31_43 (fun h3200 => have k := k.1 h3200; s31_46 (s31_47 k0_87 p0_87_0 (s31_50 k0_35 p0_35_6 (s31_53 (have b3201 := k.1; have k := k.2; s31_55 k0_40 b3201 (s31_56 (s31_57 (s31_58 (s31_59 (s31_60 (s31_61 (fun h3202 => have k := k.1 h3202; s31_64 (s31_65 (s31_66 (s31_68 (s31_69 (s31_70 rfl (s31_71 rfl (s31_74 (k))))))))) (fun h3202 => have k := k.2 h3202; s31_71 rfl (s31_74 (k)))))))))))))) (fun h3200 => have k := k.2 h3200; s31_71 rfl (s31_74 (k))))))))))))))))))))
theorem c_34_6 {X : am_X} {d : Nat} {I : Nat → Nat → Int32} {J : Nat → Nat → Int64} {Q : Option Value → am_M → Prop} {x0 : Int64} {x1 n m : Int32} (k : (((I 35 2) ≤ m → Q (some (.int n)) (am_N I J)) ∧ (¬ (I 35 2) ≤ m → (((lg_cmp ((am_lshr x0 m) &&& 1) 1) = 0 → (am_ix m 40 ∧ ((x1 < (I 41 (Int32.toNatClampNeg m)) → am_wp X d 34 6 [.ref 87, .long x0, am_uv, .int x1, .int n, .int (m + 1)] [] (am_N I J) Q) ∧ (¬ x1 < (I 41 (Int32.toNatClampNeg m)) → (am_ix m 40 ∧ (((I 42 (Int32.toNatClampNeg m)) < x1 → am_wp X d 34 6 [.ref 87, .long x0, am_uv, .int x1, .int n, .int (m + 1)] [] (am_N I J) Q) ∧ (¬ (I 42 (Int32.toNatClampNeg m)) < x1 → am_wp X d 34 6 [.ref 87, .long x0, am_uv, .int x1, .int (n + 1), .int (m + 1)] [] (am_N I J) Q))))))) ∧ (¬ (lg_cmp ((am_lshr x0 m) &&& 1) 1) = 0 → am_wp X d 34 6 [.ref 87, .long x0, am_uv, .int x1, .int n, .int (m + 1)] [] (am_N I J) Q))))) : am_wp X d 34 6 [.ref 87, .long x0, am_uv, .int x1, .int n, .int m] [] (am_N I J) Q := s34_6 (s34_8 (s34_9 k0_87 p0_87_0 (s34_12 k0_35 (s34_15 (fun h3203 => have k := k.1 h3203; s34_66 (s34_68 (k))) (fun h3203 => have k := k.2 h3203; s34_18 (s34_19 (s34_21 (s34_22 (s34_23 (s34_24 (s34_25 (s34_26 (fun h3204 => have k := k.1 h3204; s34_29 (s34_30 k0_87 p0_87_0 (s34_33 k0_35 p0_35_7 (s34_36 (have b3205 := k.1; have k := k.2; s34_38 k0_41 b3205 (s34_39 (s34_40 (fun h3206 => have k := k.1 h3206; s34_60 rfl (s34_63 (k))) (fun h3206 => have k := k.2 h3206; s34_43 (s34_44 (s34_45 k0_87 p0_87_0 (s34_48 k0_35 p0_35_8 (s34_51 (have b3207 := k.1; have k := k.2; s34_53 k0_42 b3207 (s34_54 (fun h3208 => have k := k.1 h3208; s34_60 rfl (s34_63 (k))) (fun h3208 => have k := k.2 h3208; s34_57 rfl (s34_60 rfl (s34_63 (k)))))))))))))))))) (fun h3204 => have k := k.2 h3204; s34_60 rfl (s34_63 (k)))))))))))))))
/-! FEWEST WRONG: the class's counts behind weigh -/
def onr (I : Nat → Nat → Int32) (r : Nat) : Bool := !decide (I (43 + r) 4 = 0)
def nvr (I : Nat → Nat → Int32) (b r : Nat) : Bool := onr I r && !tb (I 40 r) b
def nvn (I : Nat → Nat → Int32) (b : Nat) : Nat → Nat
  | 0 => 0
  | m + 1 => nvn I b m + (if nvr I b m = true then 1 else 0)
theorem nvn_le (I : Nat → Nat → Int32) (b : Nat) : ∀ m, nvn I b m ≤ m := by
  intro m
  induction m with
  | zero => exact Nat.le_refl 0
  | succ m ih =>
    show nvn I b m + (if nvr I b m = true then 1 else 0) ≤ m + 1
    split <;> omega
theorem nvn_mono (I : Nat → Nat → Int32) (b : Nat) {m : Nat} : ∀ {n : Nat}, m ≤ n → nvn I b m ≤ nvn I b n := by
  intro n h
  induction h with
  | refl => exact Nat.le_refl _
  | step _ ih => exact Nat.le_trans ih (Nat.le_add_right _ _)
def t30 (I : Nat → Nat → Int32) (b : Nat) (r : Int32) : Prop := ∃ k : Nat, k ≤ nvn I b (bk I) ∧ r = Int32.ofInt (k : Int) ∧ (k = nvn I b (bk I) ∨ I 87 5 ≤ r)
theorem w_30 {X : am_X} {d : Nat} {I : Nat → Nat → Int32} {J : Nat → Nat → Int64} {Q : Option Value → am_M → Prop} {x0 : Int32} (hI : Inv I) {b : Nat} (hb : b < 24) (ex : x0 = Int32.ofInt (b : Int)) (k : ∀ r, t30 I b r → Q (some (.int r)) (am_N I J)) : am_wp X d 30 0 [.ref 87, .int x0, am_uv, am_uv] [] (am_N I J) Q := by
  obtain ⟨e35, l40⟩ := hI.book
  subst ex
  refine c_30 ?_
  refine am_down (N := bk I) (P := fun m => am_wp X d 30 4 [.ref 87, .int (Int32.ofInt (b : Int)), .int (Int32.ofInt (nvn I b m : Int)), .int (Int32.ofInt (m : Int))] [] (am_N I J) Q) ?_ ?_ 0 (by omega)
  · exact c_30_4 ⟨fun _ => k _ ⟨_, Nat.le_refl _, rfl, Or.inl rfl⟩, fun q => absurd (by rw [e35]; exact Int32.le_refl _) q⟩
  · intro m hm ih
    have ix : am_ix (Int32.ofInt (m : Int)) 40 := oi_ix (by omega) (by omega) (by omega)
    refine c_30_4 ⟨fun q => absurd q (by rw [e35, oi_le (by omega) (by omega)]; omega), fun _ => ⟨fun q => k _ ⟨_, nvn_mono I b (by omega), rfl, Or.inr q⟩, fun _ => ⟨ix, ?_⟩⟩⟩
    rw [oi_cln (by omega), oi_succ, oi_succ, tb_bit0 _ (by omega)]
    have st : nvn I b (m + 1) = nvn I b m + (if nvr I b m = true then 1 else 0) := rfl
    have same : nvr I b m = false → am_wp X d 30 4 [.ref 87, .int (Int32.ofInt (b : Int)), .int (Int32.ofInt (nvn I b m : Int)), .int (Int32.ofInt ((m + 1 : Nat) : Int))] [] (am_N I J) Q := by
      intro h
      rw [if_neg (by rw [h]; decide)] at st
      rw [← show nvn I b (m + 1) = nvn I b m from st]
      exact ih
    refine ⟨fun q => same ?_, fun q => ⟨ix, fun p => ?_, fun p => same ?_⟩⟩
    · unfold nvr onr
      rw [decide_eq_true q]
      rfl
    · rw [if_pos (by unfold nvr onr; rw [decide_eq_false q, p]; rfl)] at st
      rw [← st]
      exact ih
    · unfold nvr
      rw [Bool.not_eq_false] at p
      rw [p]
      exact Bool.and_false _
def clr' (I : Nat → Nat → Int32) (b r : Nat) : Bool := onr I r && (decide (I (43 + r) 0 = 2) && tb (I 40 r) b)
def t31 (I : Nat → Nat → Int32) (b : Nat) (c : Int64) : Prop := ∀ i, tl c i = (decide (i < bk I) && clr' I b i)
theorem w_31 {X : am_X} {d : Nat} {I : Nat → Nat → Int32} {J : Nat → Nat → Int64} {Q : Option Value → am_M → Prop} {x0 : Int32} (hI : Inv I) {b : Nat} (hb : b < 24) (ex : x0 = Int32.ofInt (b : Int)) (k : ∀ c, t31 I b c → Q (some (.long c)) (am_N I J)) : am_wp X d 31 0 [.ref 87, .int x0, am_uv, am_uv, am_uv, am_uv] [] (am_N I J) Q := by
  obtain ⟨e35, l40⟩ := hI.book
  subst ex
  refine c_31 ?_
  refine am_down (N := bk I) (P := fun m => ∀ (c : Int64) (u5 : Value), u5.category = 1 → (∀ i, tl c i = (decide (i < m) && clr' I b i)) → am_wp X d 31 5 [.ref 87, .int (Int32.ofInt (b : Int)), .long c, am_uv, .int (Int32.ofInt (m : Int)), u5] [] (am_N I J) Q) ?_ ?_ 0 (by omega) 0 am_uv rfl (fun i => by rw [tl_0, decide_eq_false (by omega)]; rfl)
  · intro c u5 h5 hc
    exact c_31_5 h5 ⟨fun _ => k c hc, fun q => absurd (by rw [e35]; exact Int32.le_refl _) q⟩
  · intro m hm ih c u5 h5 hc
    have ix : am_ix (Int32.ofInt (m : Int)) 40 := oi_ix (by omega) (by omega) (by omega)
    refine c_31_5 h5 ⟨fun q => absurd q (by rw [e35, oi_le (by omega) (by omega)]; omega), fun _ => ⟨ix, ?_⟩⟩
    rw [oi_cln (by omega), oi_succ, tb_bit1 _ (by omega)]
    have same : clr' I b m = false → am_wp X d 31 5 [.ref 87, .int (Int32.ofInt (b : Int)), .long c, am_uv, .int (Int32.ofInt ((m + 1 : Nat) : Int)), .ref (43 + m)] [] (am_N I J) Q := by
      intro h
      refine ih c _ rfl (fun i => ?_)
      rw [hc i]
      by_cases e : i = m
      · rw [e, h, Bool.and_false, Bool.and_false]
      · rw [show decide (i < m + 1) = decide (i < m) from decide_eq_decide.mpr (by omega)]
    refine ⟨fun q => same ?_, fun q => ⟨fun p => ⟨ix, fun z => ih _ _ rfl (fun i => ?_), fun z => same ?_⟩, fun p => same ?_⟩⟩
    · unfold clr' onr
      rw [decide_eq_true q]
      rfl
    · rw [tl_or, hc i]
      rcases Nat.lt_or_ge i 64 with i64 | i64
      · rw [tl_one (by omega) i64]
        by_cases e : i = m
        · have hm' : clr' I b m = true := by
            unfold clr' onr
            rw [decide_eq_false q, decide_eq_true p, z]
            rfl
          rw [e, hm', decide_eq_true rfl, decide_eq_true (show m < m + 1 by omega), Bool.or_true]
          rfl
        · rw [decide_eq_false e, Bool.or_false, show decide (i < m + 1) = decide (i < m) from decide_eq_decide.mpr (by omega)]
      · rw [tl_big i64, decide_eq_false (show ¬ i < m by omega), decide_eq_false (show ¬ i < m + 1 by omega)]
        rfl
    · unfold clr'
      rw [Bool.not_eq_true] at z
      rw [z, Bool.and_false, Bool.and_false]
    · unfold clr'
      rw [decide_eq_false p]
      exact Bool.and_false _
/-- how many of a set's clocks go at a time -/
def cth (I : Nat → Nat → Int32) (c : Int64) (t : Int32) (r : Nat) : Bool := tl c r && (!decide (t < I 41 r) && !decide (I 42 r < t))
def ctn (I : Nat → Nat → Int32) (c : Int64) (t : Int32) : Nat → Nat
  | 0 => 0
  | m + 1 => ctn I c t m + (if cth I c t m = true then 1 else 0)
theorem ctn_le (I : Nat → Nat → Int32) (c : Int64) (t : Int32) : ∀ m, ctn I c t m ≤ m := by
  intro m
  induction m with
  | zero => exact Nat.le_refl 0
  | succ m ih =>
    show ctn I c t m + (if cth I c t m = true then 1 else 0) ≤ m + 1
    split <;> omega
theorem w_34 {X : am_X} {d : Nat} {I : Nat → Nat → Int32} {J : Nat → Nat → Int64} {Q : Option Value → am_M → Prop} {x0 : Int64} {x1 : Int32} (hI : Inv I) (k : Q (some (.int (Int32.ofInt (ctn I x0 x1 (bk I) : Int)))) (am_N I J)) : am_wp X d 34 0 [.ref 87, .long x0, am_uv, .int x1, am_uv, am_uv] [] (am_N I J) Q := by
  obtain ⟨e35, l40⟩ := hI.book
  refine c_34 ?_
  refine am_down (N := bk I) (P := fun m => am_wp X d 34 6 [.ref 87, .long x0, am_uv, .int x1, .int (Int32.ofInt (ctn I x0 x1 m : Int)), .int (Int32.ofInt (m : Int))] [] (am_N I J) Q) ?_ ?_ 0 (by omega)
  · exact c_34_6 ⟨fun _ => k, fun q => absurd (by rw [e35]; exact Int32.le_refl _) q⟩
  · intro m hm ih
    have ix : am_ix (Int32.ofInt (m : Int)) 40 := oi_ix (by omega) (by omega) (by omega)
    refine c_34_6 ⟨fun q => absurd q (by rw [e35, oi_le (by omega) (by omega)]; omega), fun _ => ?_⟩
    rw [oi_cln (by omega), oi_succ, oi_succ, tl_test _ (by omega)]
    have st : ctn I x0 x1 (m + 1) = ctn I x0 x1 m + (if cth I x0 x1 m = true then 1 else 0) := rfl
    have same : cth I x0 x1 m = false → am_wp X d 34 6 [.ref 87, .long x0, am_uv, .int x1, .int (Int32.ofInt (ctn I x0 x1 m : Int)), .int (Int32.ofInt ((m + 1 : Nat) : Int))] [] (am_N I J) Q := by
      intro h
      rw [if_neg (by rw [h]; decide)] at st
      rw [← show ctn I x0 x1 (m + 1) = ctn I x0 x1 m from st]
      exact ih
    refine ⟨fun q => ⟨ix, fun p => same ?_, fun p => ⟨ix, fun z => same ?_, fun z => ?_⟩⟩, fun q => same ?_⟩
    · unfold cth
      rw [decide_eq_true p]
      exact Bool.and_false _
    · unfold cth
      rw [decide_eq_true z]
      show (tl x0 m && (_ && false)) = false
      rw [Bool.and_false, Bool.and_false]
    · rw [if_pos (by unfold cth; rw [q, decide_eq_false p, decide_eq_false z]; rfl)] at st
      rw [← st]
      exact ih
    · unfold cth
      rw [Bool.not_eq_true] at q
      rw [q]
      rfl
