/-! BITS of a cell: tests, masks, how many -/
def tb (x : Int32) (i : Nat) : Bool := x.toBitVec.getLsbD i
def M24 (x : Int32) : Prop := ∀ i, 24 ≤ i → tb x i = false
theorem tb_ext {x y : Int32} (h : ∀ i, i < 32 → tb x i = tb y i) : x = y := Int32.toBitVec_inj.mp (BitVec.eq_of_getLsbD_eq (fun i hi => h i hi))
theorem tb_or (x y : Int32) (i : Nat) : tb (x ||| y) i = (tb x i || tb y i) := by unfold tb; rw [Int32.toBitVec_or, BitVec.getLsbD_or]
theorem tb_and (x y : Int32) (i : Nat) : tb (x &&& y) i = (tb x i && tb y i) := by unfold tb; rw [Int32.toBitVec_and, BitVec.getLsbD_and]
theorem tb_xor (x y : Int32) (i : Nat) : tb (x ^^^ y) i = (tb x i ^^ tb y i) := by unfold tb; rw [Int32.toBitVec_xor, BitVec.getLsbD_xor]
theorem tb_big {x : Int32} {i : Nat} (h : 32 ≤ i) : tb x i = false := BitVec.getLsbD_of_ge _ _ h
theorem tb_0 (i : Nat) : tb 0 i = false := BitVec.getLsbD_zero
theorem tb_m1 : ∀ i, i < 32 → tb (-1) i = true := by decide +kernel
theorem tb_c1 : ∀ i, i < 32 → tb 16777215 i = decide (i < 24) := by decide +kernel
theorem tb_c2 : ∀ i, i < 32 → tb 5592405 i = decide (i < 24 ∧ i % 2 = 0) := by decide +kernel
theorem tb_c3 : ∀ i, i < 32 → tb 11184810 i = decide (i < 24 ∧ i % 2 = 1) := by decide +kernel
theorem tb_all (i : Nat) : tb 16777215 i = decide (i < 24) := by
  rcases Nat.lt_or_ge i 32 with h | h
  · exact tb_c1 i h
  · rw [tb_big h, decide_eq_false (by omega)]
theorem tb_lev (i : Nat) : tb 5592405 i = decide (i < 24 ∧ i % 2 = 0) := by
  rcases Nat.lt_or_ge i 32 with h | h
  · exact tb_c2 i h
  · rw [tb_big h, decide_eq_false (by omega)]
theorem tb_upr (i : Nat) : tb 11184810 i = decide (i < 24 ∧ i % 2 = 1) := by
  rcases Nat.lt_or_ge i 32 with h | h
  · exact tb_c3 i h
  · rw [tb_big h, decide_eq_false (by omega)]
theorem M24.ext {x y : Int32} (hx : M24 x) (hy : M24 y) (h : ∀ i, i < 24 → tb x i = tb y i) : x = y := by
  refine tb_ext (fun i _ => ?_)
  rcases Nat.lt_or_ge i 24 with h1 | h1
  · exact h i h1
  · rw [hx i h1, hy i h1]
theorem M24.z : M24 0 := fun i _ => tb_0 i
theorem M24.zero {x : Int32} (hx : M24 x) : x = 0 ↔ ∀ i, i < 24 → tb x i = false := ⟨fun h i _ => by rw [h]; exact tb_0 i, fun h => hx.ext M24.z (fun i hi => by rw [h i hi, tb_0])⟩
theorem M24.nz {x : Int32} (hx : M24 x) : ¬ x = 0 ↔ ∃ i, i < 24 ∧ tb x i = true := by
  rw [hx.zero]
  refine ⟨fun h => ?_, fun ⟨i, hi, ht⟩ h => by rw [h i hi] at ht; cases ht⟩
  refine Classical.byContradiction fun hn => h fun i hi => ?_
  cases hb : tb x i
  · rfl
  · exact absurd ⟨i, hi, hb⟩ hn
theorem M24.andl {x y : Int32} (hx : M24 x) : M24 (x &&& y) := fun i hi => by rw [tb_and, hx i hi, Bool.false_and]
theorem M24.andr {x y : Int32} (hy : M24 y) : M24 (x &&& y) := fun i hi => by rw [tb_and, hy i hi, Bool.and_false]
theorem M24.or {x y : Int32} (hx : M24 x) (hy : M24 y) : M24 (x ||| y) := fun i hi => by rw [tb_or, hx i hi, hy i hi, Bool.false_or]
theorem M24.all : M24 16777215 := fun i hi => by rw [tb_all, decide_eq_false (by omega)]
theorem M24.lev : M24 5592405 := fun i hi => by rw [tb_lev, decide_eq_false (by omega)]
theorem M24.upr : M24 11184810 := fun i hi => by rw [tb_upr, decide_eq_false (by omega)]
theorem tb_nt {x : Int32} {i : Nat} (hi : i < 24) : tb (16777215 &&& (x ^^^ (-1))) i = !tb x i := by
  rw [tb_and, tb_all, decide_eq_true hi, Bool.true_and, tb_xor, tb_m1 i (by omega), Bool.xor_true]
theorem M24.nt {x : Int32} : M24 (16777215 &&& (x ^^^ (-1))) := M24.all.andl
theorem tb_sl : ∀ n, n < 32 → ((Int32.ofNat n &&& 31).toBitVec.smod 32).toNat = n := by decide +kernel
theorem tb_su : ∀ n, n < 32 → (((Int32.ofNat n).toUInt32 &&& Int32.toUInt32 31).toBitVec % 32).toNat = n := by decide +kernel
theorem tb_shl {n : Nat} (hn : n < 32) (x : Int32) {i : Nat} (hi : i < 32) : tb (am_shl x (Int32.ofNat n)) i = (decide (n ≤ i) && tb x (i - n)) := by
  unfold tb am_shl
  rw [Int32.toBitVec_shiftLeft]
  show (x.toBitVec <<< ((Int32.ofNat n &&& 31).toBitVec.smod 32).toNat).getLsbD i = _
  rw [tb_sl n hn, BitVec.getLsbD_shiftLeft]
  rcases Nat.lt_or_ge i n with h | h
  · simp [h, Nat.not_le.mpr h]
  · simp [hi, h, Nat.not_lt.mpr h]
theorem tb_shr {n : Nat} (hn : n < 32) (x : Int32) {i : Nat} (hi : i < 32) : tb (am_shr x (Int32.ofNat n)) i = if n + i < 32 then tb x (n + i) else tb x 31 := by
  unfold tb am_shr
  rw [Int32.toBitVec_shiftRight]
  show (x.toBitVec.sshiftRight ((Int32.ofNat n &&& 31).toBitVec.smod 32).toNat).getLsbD i = _
  rw [tb_sl n hn, BitVec.getLsbD_sshiftRight, BitVec.msb_eq_getLsbD_last]
  simp [hi]
theorem tb_1 : ∀ i, i < 32 → tb 1 i = decide (i = 0) := by decide +kernel
/-- (x >> i) & 1 -/
theorem tb_bit (x : Int32) {n : Nat} (hn : n < 32) : (am_shr x (Int32.ofInt (n : Int)) &&& 1) = if tb x n = true then 1 else 0 := by
  rw [← oi_nat]
  refine tb_ext (fun i hi => ?_)
  rw [tb_and, tb_shr hn x hi, tb_1 i hi]
  by_cases h0 : i = 0
  · subst h0
    rw [if_pos (by omega), decide_eq_true rfl, Bool.and_true, Nat.add_zero]
    cases hb : tb x n
    · rw [if_neg (by decide), tb_0]
    · rw [if_pos rfl]
      rfl
  · rw [decide_eq_false h0, Bool.and_false]
    cases hb : tb x n
    · rw [if_neg (by decide), tb_0]
    · rw [if_pos rfl, tb_1 i hi, decide_eq_false h0]
theorem tb_bit1 (x : Int32) {n : Nat} (hn : n < 32) : (am_shr x (Int32.ofInt (n : Int)) &&& 1) = 1 ↔ tb x n = true := by
  rw [tb_bit x hn]
  cases tb x n
  · exact ⟨fun h => absurd h (by decide), fun h => by cases h⟩
  · exact ⟨fun _ => rfl, fun _ => rfl⟩
theorem tb_bit0 (x : Int32) {n : Nat} (hn : n < 32) : (am_shr x (Int32.ofInt (n : Int)) &&& 1) = 0 ↔ tb x n = false := by
  rw [tb_bit x hn]
  cases tb x n
  · exact ⟨fun _ => rfl, fun _ => rfl⟩
  · exact ⟨fun h => absurd h (by decide), fun h => by cases h⟩
/-- 1 << n -/
theorem tb_one {n : Nat} (hn : n < 32) {i : Nat} (hi : i < 32) : tb (am_shl 1 (Int32.ofInt (n : Int))) i = decide (i = n) := by
  rw [← oi_nat, tb_shl hn 1 hi]
  by_cases h : n ≤ i
  · rw [decide_eq_true h, Bool.true_and, tb_1 _ (by omega)]
    by_cases e : i = n
    · rw [decide_eq_true (by omega), decide_eq_true e]
    · rw [decide_eq_false (by omega), decide_eq_false e]
  · rw [decide_eq_false h, Bool.false_and, decide_eq_false (by omega)]
/-! how many: the machine's bitCount -/
def nt32 (x : Int32) : Nat := x.toBitVec.toNat
theorem nt_lt (x : Int32) : nt32 x < 4294967296 := x.toBitVec.isLt
theorem nt_inj {x y : Int32} (h : nt32 x = nt32 y) : x = y := Int32.toBitVec_inj.mp (BitVec.eq_of_toNat_eq h)
theorem nt_and (x y : Int32) : nt32 (x &&& y) = nt32 x &&& nt32 y := by unfold nt32; rw [Int32.toBitVec_and, BitVec.toNat_and]
theorem nt_add {x y : Int32} (h : nt32 x + nt32 y < 4294967296) : nt32 (x + y) = nt32 x + nt32 y := by
  unfold nt32 at h ⊢
  rw [Int32.toBitVec_add, BitVec.toNat_add, Nat.mod_eq_of_lt h]
theorem nt_sub {x y : Int32} (h : nt32 y ≤ nt32 x) : nt32 (x - y) = nt32 x - nt32 y := by
  unfold nt32 at h ⊢
  rw [Int32.toBitVec_sub]
  exact BitVec.toNat_sub_of_le h
theorem nt_ush (x : Int32) {k : Nat} (hk : k < 32) : nt32 (am_ushr x (Int32.ofNat k)) = nt32 x / 2 ^ k := by
  unfold nt32 am_ushr
  show (x.toUInt32 >>> ((Int32.ofNat k).toUInt32 &&& Int32.toUInt32 31)).toBitVec.toNat = _
  rw [UInt32.toBitVec_shiftRight]
  show (x.toBitVec >>> (((Int32.ofNat k).toUInt32 &&& Int32.toUInt32 31).toBitVec % 32).toNat).toNat = _
  rw [tb_su k hk, BitVec.toNat_ushiftRight, Nat.shiftRight_eq_div_pow]
theorem nt_ofI {n : Nat} (h : n < 4294967296) : nt32 (Int32.ofInt (n : Int)) = n := by
  rw [← oi_nat]
  show (BitVec.ofNat 32 n).toNat = n
  rw [BitVec.toNat_ofNat, Nat.mod_eq_of_lt h]
theorem tb_nt32 (x : Int32) (i : Nat) : tb x i = (nt32 x).testBit i := rfl
theorem M24.lt {x : Int32} (h : M24 x) : nt32 x < 16777216 := by
  refine Nat.lt_pow_two_of_testBit (n := 24) _ (fun i hi => ?_)
  rw [← tb_nt32]
  exact h i hi
theorem pc_and (a y m M : Nat) (ha : a < 256) (hm : m < 256) : (a + 256 * y) &&& (m + 256 * M) = (a &&& m) + 256 * (y &&& M) := by
  have h1 : ((a + 256 * y) &&& (m + 256 * M)) % 2 ^ 8 = a &&& m := by
    rw [Nat.and_mod_two_pow, show (a + 256 * y) % 2 ^ 8 = a by omega, show (m + 256 * M) % 2 ^ 8 = m by omega]
  have h2 : ((a + 256 * y) &&& (m + 256 * M)) / 2 ^ 8 = y &&& M := by
    rw [Nat.and_div_two_pow, show (a + 256 * y) / 2 ^ 8 = y by omega, show (m + 256 * M) / 2 ^ 8 = M by omega]
  omega
theorem pc_and3 (a b c m M : Nat) (ha : a < 256) (hb : b < 256) (hm : m < 256) : (a + 256 * (b + 256 * c)) &&& (m + 256 * (m + 256 * M)) = (a &&& m) + 256 * ((b &&& m) + 256 * (c &&& M)) := by
  rw [pc_and a _ m _ ha hm, pc_and b c m M hb hm]
def pc_1 (a : Nat) : Nat := a - (a / 2 &&& 85)
def pc_2 (a : Nat) : Nat := (a &&& 51) + (a / 4 &&& 51)
def pc_3 (a : Nat) : Nat := (a + a / 16) &&& 15
def pc_t (a : Nat) : Nat := a % 2 + a / 2 % 2 + a / 4 % 2 + a / 8 % 2 + a / 16 % 2 + a / 32 % 2 + a / 64 % 2 + a / 128 % 2
theorem pc_k1 : ∀ a, a < 256 → ∀ q, q < 2 → (a / 2 + 128 * q) &&& 85 = a / 2 &&& 85 := by decide +kernel
theorem pc_k1l : ∀ a, a < 256 → (a / 2 &&& 85) ≤ a ∧ a / 2 &&& 21845 = a / 2 &&& 85 := by decide +kernel
theorem pc_k2 : ∀ a, a < 256 → ∀ q, q < 4 → (a / 4 + 64 * q) &&& 51 = a / 4 &&& 51 := by decide +kernel
theorem pc_k2l : ∀ a, a < 256 → a &&& 13107 = a &&& 51 ∧ a / 4 &&& 13107 = a / 4 &&& 51 := by decide +kernel
theorem pc_k3 : ∀ a, a < 69 → ∀ q, q < 5 → (a + a / 16 + 16 * q) &&& 15 = pc_3 a := by decide +kernel
theorem pc_k3l : ∀ a, a < 69 → (a + a / 16) &&& 3855 = pc_3 a := by decide +kernel
theorem pc_ka : ∀ a, a < 256 → pc_1 a < 256 ∧ pc_2 (pc_1 a) < 69 ∧ pc_2 (pc_1 a) % 16 < 5 ∧ pc_3 (pc_2 (pc_1 a)) = pc_t a ∧ pc_t a ≤ 8 := by decide +kernel
theorem pc_s1 {a b c : Nat} (ha : a < 256) (hb : b < 256) (hc : c < 256) : ((a + 256 * (b + 256 * c)) / 2 &&& 1431655765) = (a / 2 &&& 85) + 256 * ((b / 2 &&& 85) + 256 * (c / 2 &&& 85)) := by
  rw [show (a + 256 * (b + 256 * c)) / 2 = (a / 2 + 128 * (b % 2)) + 256 * ((b / 2 + 128 * (c % 2)) + 256 * (c / 2)) by omega, show (1431655765 : Nat) = 85 + 256 * (85 + 256 * 21845) from rfl, pc_and3 _ _ _ _ _ (by omega) (by omega) (by omega), pc_k1 a ha _ (by omega), pc_k1 b hb _ (by omega), (pc_k1l c hc).2]
theorem pc_s2a {a b c : Nat} (ha : a < 256) (hb : b < 256) (hc : c < 256) : ((a + 256 * (b + 256 * c)) &&& 858993459) = (a &&& 51) + 256 * ((b &&& 51) + 256 * (c &&& 51)) := by
  rw [show (858993459 : Nat) = 51 + 256 * (51 + 256 * 13107) from rfl, pc_and3 _ _ _ _ _ ha hb (by omega), (pc_k2l c hc).1]
theorem pc_s2b {a b c : Nat} (ha : a < 256) (hb : b < 256) (hc : c < 256) : ((a + 256 * (b + 256 * c)) / 4 &&& 858993459) = (a / 4 &&& 51) + 256 * ((b / 4 &&& 51) + 256 * (c / 4 &&& 51)) := by
  rw [show (a + 256 * (b + 256 * c)) / 4 = (a / 4 + 64 * (b % 4)) + 256 * ((b / 4 + 64 * (c % 4)) + 256 * (c / 4)) by omega, show (858993459 : Nat) = 51 + 256 * (51 + 256 * 13107) from rfl, pc_and3 _ _ _ _ _ (by omega) (by omega) (by omega), pc_k2 a ha _ (by omega), pc_k2 b hb _ (by omega), (pc_k2l c hc).2]
theorem pc_s3 {a b c : Nat} (ha : a < 69) (hb : b < 69) (hc : c < 69) (hb' : b % 16 < 5) (hc' : c % 16 < 5) : (((a + 256 * (b + 256 * c)) + (a + 256 * (b + 256 * c)) / 16) &&& 252645135) = pc_3 a + 256 * (pc_3 b + 256 * pc_3 c) := by
  rw [show (a + 256 * (b + 256 * c)) + (a + 256 * (b + 256 * c)) / 16 = (a + a / 16 + 16 * (b % 16)) + 256 * ((b + b / 16 + 16 * (c % 16)) + 256 * (c + c / 16)) by omega, show (252645135 : Nat) = 15 + 256 * (15 + 256 * 3855) from rfl, pc_and3 _ _ _ _ _ (by omega) (by omega) (by omega), pc_k3 a ha _ (by omega), pc_k3 b hb _ (by omega), pc_k3l c hc]
/-- how many of the first k bits -/
def pcn (x : Int32) : Nat → Nat
  | 0 => 0
  | k + 1 => pcn x k + (if tb x k = true then 1 else 0)
theorem pcn_le (x : Int32) : ∀ k, pcn x k ≤ k := by
  intro k
  induction k with
  | zero => exact Nat.le_refl 0
  | succ k ih =>
    show pcn x k + (if tb x k = true then 1 else 0) ≤ k + 1
    split <;> omega
def pcN (n : Nat) : Nat → Nat
  | 0 => 0
  | k + 1 => pcN n k + n / 2 ^ k % 2
theorem pcn_N (x : Int32) : ∀ k, pcn x k = pcN (nt32 x) k := by
  intro k
  induction k with
  | zero => rfl
  | succ k ih =>
    show pcn x k + (if tb x k = true then 1 else 0) = pcN (nt32 x) k + nt32 x / 2 ^ k % 2
    rw [ih, tb_nt32, Nat.testBit_eq_decide_div_mod_eq]
    have h2 : nt32 x / 2 ^ k % 2 < 2 := Nat.mod_lt _ (by decide)
    by_cases h : nt32 x / 2 ^ k % 2 = 1
    · rw [decide_eq_true h, if_pos rfl, h]
    · rw [decide_eq_false h, if_neg (by decide)]
      omega
theorem pc_split {a b c : Nat} (ha : a < 256) (hb : b < 256) (hc : c < 256) : pcN (a + 256 * (b + 256 * c)) 24 = pc_t a + pc_t b + pc_t c := by
  have e : ∀ n, pcN n 24 = (n / 1 % 2 + n / 2 % 2 + n / 4 % 2 + n / 8 % 2 + n / 16 % 2 + n / 32 % 2 + n / 64 % 2 + n / 128 % 2) + (n / 256 % 2 + n / 512 % 2 + n / 1024 % 2 + n / 2048 % 2 + n / 4096 % 2 + n / 8192 % 2 + n / 16384 % 2 + n / 32768 % 2) + (n / 65536 % 2 + n / 131072 % 2 + n / 262144 % 2 + n / 524288 % 2 + n / 1048576 % 2 + n / 2097152 % 2 + n / 4194304 % 2 + n / 8388608 % 2) := by
    intro n
    show (((((((((((((((((((((((0 + n / 1 % 2) + n / 2 % 2) + n / 4 % 2) + n / 8 % 2) + n / 16 % 2) + n / 32 % 2) + n / 64 % 2) + n / 128 % 2) + n / 256 % 2) + n / 512 % 2) + n / 1024 % 2) + n / 2048 % 2) + n / 4096 % 2) + n / 8192 % 2) + n / 16384 % 2) + n / 32768 % 2) + n / 65536 % 2) + n / 131072 % 2) + n / 262144 % 2) + n / 524288 % 2) + n / 1048576 % 2) + n / 2097152 % 2) + n / 4194304 % 2) + n / 8388608 % 2 = _
    rw [Nat.zero_add]
    simp only [Nat.add_assoc]
  rw [e]
  unfold pc_t
  have h1 : ∀ n, n = a + 256 * (b + 256 * c) → n / 1 % 2 = a % 2 ∧ n / 2 % 2 = a / 2 % 2 ∧ n / 4 % 2 = a / 4 % 2 ∧ n / 8 % 2 = a / 8 % 2 ∧ n / 16 % 2 = a / 16 % 2 ∧ n / 32 % 2 = a / 32 % 2 ∧ n / 64 % 2 = a / 64 % 2 ∧ n / 128 % 2 = a / 128 % 2 := by
    intro n hn
    refine ⟨?_, ?_, ?_, ?_, ?_, ?_, ?_, ?_⟩ <;> omega
  have h2 : ∀ n, n = a + 256 * (b + 256 * c) → n / 256 % 2 = b % 2 ∧ n / 512 % 2 = b / 2 % 2 ∧ n / 1024 % 2 = b / 4 % 2 ∧ n / 2048 % 2 = b / 8 % 2 ∧ n / 4096 % 2 = b / 16 % 2 ∧ n / 8192 % 2 = b / 32 % 2 ∧ n / 16384 % 2 = b / 64 % 2 ∧ n / 32768 % 2 = b / 128 % 2 := by
    intro n hn
    refine ⟨?_, ?_, ?_, ?_, ?_, ?_, ?_, ?_⟩ <;> omega
  have h3 : ∀ n, n = a + 256 * (b + 256 * c) → n / 65536 % 2 = c % 2 ∧ n / 131072 % 2 = c / 2 % 2 ∧ n / 262144 % 2 = c / 4 % 2 ∧ n / 524288 % 2 = c / 8 % 2 ∧ n / 1048576 % 2 = c / 16 % 2 ∧ n / 2097152 % 2 = c / 32 % 2 ∧ n / 4194304 % 2 = c / 64 % 2 ∧ n / 8388608 % 2 = c / 128 % 2 := by
    intro n hn
    refine ⟨?_, ?_, ?_, ?_, ?_, ?_, ?_, ?_⟩ <;> omega
  obtain ⟨e0, e1, e2, e3, e4, e5, e6, e7⟩ := h1 _ rfl
  obtain ⟨f0, f1, f2, f3, f4, f5, f6, f7⟩ := h2 _ rfl
  obtain ⟨g0, g1, g2, g3, g4, g5, g6, g7⟩ := h3 _ rfl
  rw [e0, e1, e2, e3, e4, e5, e6, e7, f0, f1, f2, f3, f4, f5, f6, f7, g0, g1, g2, g3, g4, g5, g6, g7]
theorem pc_fin {A B C : Nat} (hA : A ≤ 8) (hB : B ≤ 8) (hC : C ≤ 8) : (A + B + 256 * (B + C + 256 * C) + (A + B + 256 * (B + C + 256 * C)) / 65536) % 64 = A + B + C := by
  have h : (A + B + 256 * (B + C + 256 * C)) / 65536 = C := by omega
  rw [h]
  omega
/-- bitCount of a cell's bits -/
theorem bitCount_24 {x : Int32} (h : M24 x) : v_bitCount x = Int32.ofInt (pcn x 24 : Nat) := by
  have hl := h.lt
  obtain ⟨a, b, c, ha, hb, hc, en⟩ : ∃ a b c, a < 256 ∧ b < 256 ∧ c < 256 ∧ nt32 x = a + 256 * (b + 256 * c) := ⟨nt32 x % 256, nt32 x / 256 % 256, nt32 x / 65536, by omega, by omega, by omega, by omega⟩
  obtain ⟨p1, p2, p3, p4, p5⟩ := pc_ka a ha
  obtain ⟨q1, q2, q3, q4, q5⟩ := pc_ka b hb
  obtain ⟨r1, r2, r3, r4, r5⟩ := pc_ka c hc
  rw [pcn_N, en, pc_split ha hb hc]
  refine nt_inj ?_
  rw [nt_ofI (by omega)]
  unfold v_bitCount
  have u : ∀ (y : Int32) (k : Nat), k < 32 → nt32 (am_ushr y (Int32.ofNat k)) = nt32 y / 2 ^ k := fun y k hk => nt_ush y hk
  -- stage 1
  have s1 : nt32 (x - ((am_ushr x 1) &&& 1431655765)) = pc_1 a + 256 * (pc_1 b + 256 * pc_1 c) := by
    have e : nt32 ((am_ushr x 1) &&& 1431655765) = (a / 2 &&& 85) + 256 * ((b / 2 &&& 85) + 256 * (c / 2 &&& 85)) := by
      rw [nt_and, show nt32 (am_ushr x 1) = nt32 x / 2 ^ 1 from u x 1 (by decide), en, show nt32 1431655765 = 1431655765 from rfl, show (2 : Nat) ^ 1 = 2 from rfl, pc_s1 ha hb hc]
    have la := (pc_k1l a ha).1
    have lb := (pc_k1l b hb).1
    have lc := (pc_k1l c hc).1
    rw [nt_sub (by rw [e, en]; omega), e, en]
    unfold pc_1
    omega
  generalize (x - ((am_ushr x 1) &&& 1431655765)) = y at s1 ⊢
  have s2 : nt32 ((y &&& 858993459) + ((am_ushr y 2) &&& 858993459)) = pc_2 (pc_1 a) + 256 * (pc_2 (pc_1 b) + 256 * pc_2 (pc_1 c)) := by
    have e1 : nt32 (y &&& 858993459) = (pc_1 a &&& 51) + 256 * ((pc_1 b &&& 51) + 256 * (pc_1 c &&& 51)) := by
      rw [nt_and, s1, show nt32 858993459 = 858993459 from rfl, pc_s2a p1 q1 r1]
    have e2 : nt32 ((am_ushr y 2) &&& 858993459) = (pc_1 a / 4 &&& 51) + 256 * ((pc_1 b / 4 &&& 51) + 256 * (pc_1 c / 4 &&& 51)) := by
      rw [nt_and, show nt32 (am_ushr y 2) = nt32 y / 2 ^ 2 from u y 2 (by decide), s1, show nt32 858993459 = 858993459 from rfl, show (2 : Nat) ^ 2 = 4 from rfl, pc_s2b p1 q1 r1]
    unfold pc_2 at p2 q2 r2 ⊢
    rw [nt_add (by rw [e1, e2]; omega), e1, e2]
    omega
  generalize ((y &&& 858993459) + ((am_ushr y 2) &&& 858993459)) = z at s2 ⊢
  have s3 : nt32 ((z + (am_ushr z 4)) &&& 252645135) = pc_t a + 256 * (pc_t b + 256 * pc_t c) := by
    have e1 : nt32 (am_ushr z 4) = nt32 z / 16 := u z 4 (by decide)
    rw [nt_and, nt_add (by rw [e1, s2]; omega), e1, s2, show nt32 252645135 = 252645135 from rfl, pc_s3 p2 q2 r2 q3 r3, p4, q4, r4]
  generalize ((z + (am_ushr z 4)) &&& 252645135) = w at s3 ⊢
  have e4 : nt32 (am_ushr w 8) = nt32 w / 256 := u w 8 (by decide)
  have s4 : nt32 (w + (am_ushr w 8)) = pc_t a + pc_t b + 256 * (pc_t b + pc_t c + 256 * pc_t c) := by
    rw [nt_add (by rw [e4, s3]; omega), e4, s3]
    omega
  generalize (w + (am_ushr w 8)) = v at s4 ⊢
  have e5 : nt32 (am_ushr v 16) = nt32 v / 65536 := u v 16 (by decide)
  rw [nt_and, nt_add (by rw [e5, s4]; omega), e5, s4, show nt32 63 = 2 ^ 6 - 1 from rfl, Nat.and_two_pow_sub_one_eq_mod]
  exact pc_fin p5 q5 r5
