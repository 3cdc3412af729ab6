/-! zeros ahead of and behind a cell's bits -/
def nty (y : Int32) : Int32 := (if 0 < y then (if y ≤ 65536 then (if y ≤ 256 then (if y ≤ 16 then (if y ≤ 4 then (1 + (am_ushr y 1)) else ((1 + 2) + (am_ushr (am_ushr y 2) 1))) else (if (am_ushr y 4) ≤ 4 then ((1 + 4) + (am_ushr (am_ushr y 4) 1)) else (((1 + 4) + 2) + (am_ushr (am_ushr (am_ushr y 4) 2) 1)))) else (if (am_ushr y 8) ≤ 16 then (if (am_ushr y 8) ≤ 4 then ((1 + 8) + (am_ushr (am_ushr y 8) 1)) else (((1 + 8) + 2) + (am_ushr (am_ushr (am_ushr y 8) 2) 1))) else (if (am_ushr (am_ushr y 8) 4) ≤ 4 then (((1 + 8) + 4) + (am_ushr (am_ushr (am_ushr y 8) 4) 1)) else ((((1 + 8) + 4) + 2) + (am_ushr (am_ushr (am_ushr (am_ushr y 8) 4) 2) 1))))) else (if (am_ushr y 16) ≤ 256 then (if (am_ushr y 16) ≤ 16 then (if (am_ushr y 16) ≤ 4 then ((1 + 16) + (am_ushr (am_ushr y 16) 1)) else (((1 + 16) + 2) + (am_ushr (am_ushr (am_ushr y 16) 2) 1))) else (if (am_ushr (am_ushr y 16) 4) ≤ 4 then (((1 + 16) + 4) + (am_ushr (am_ushr (am_ushr y 16) 4) 1)) else ((((1 + 16) + 4) + 2) + (am_ushr (am_ushr (am_ushr (am_ushr y 16) 4) 2) 1)))) else (if (am_ushr (am_ushr y 16) 8) ≤ 16 then (if (am_ushr (am_ushr y 16) 8) ≤ 4 then (((1 + 16) + 8) + (am_ushr (am_ushr (am_ushr y 16) 8) 1)) else ((((1 + 16) + 8) + 2) + (am_ushr (am_ushr (am_ushr (am_ushr y 16) 8) 2) 1))) else (if (am_ushr (am_ushr (am_ushr y 16) 8) 4) ≤ 4 then ((((1 + 16) + 8) + 4) + (am_ushr (am_ushr (am_ushr (am_ushr y 16) 8) 4) 1)) else (((((1 + 16) + 8) + 4) + 2) + (am_ushr (am_ushr (am_ushr (am_ushr (am_ushr y 16) 8) 4) 2) 1)))))) else (y &&& 32))
theorem nty_e (x : Int32) : v_ntz x = nty ((x ^^^ (-1)) &&& (x - 1)) := rfl
theorem nty_k : ∀ k : Nat, k < 24 → nty (Int32.ofInt ((2 ^ k - 1 : Nat) : Int)) = Int32.ofInt (k : Int) := by decide +kernel
theorem ntz_low {x : Int32} {k : Nat} (hk : k < 24) (h1 : tb x k = true) (h0 : ∀ i, i < k → tb x i = false) : v_ntz x = Int32.ofInt (k : Int) := by
  rw [nty_e, ← nty_k k hk]
  congr 1
  have p2 : 2 ^ k ≤ 2 ^ 23 := Nat.pow_le_pow_right (by decide) (by omega)
  have pp : 0 < 2 ^ k := Nat.two_pow_pos k
  -- the number
  have hm : nt32 x % 2 ^ k = 0 := by
    refine Nat.eq_of_testBit_eq (fun i => ?_)
    rw [Nat.testBit_mod_two_pow, Nat.zero_testBit]
    by_cases hi : i < k
    · rw [← tb_nt32, h0 i hi, Bool.and_false]
    · rw [decide_eq_false hi, Bool.false_and]
  have hq : nt32 x / 2 ^ k % 2 = 1 := by
    rw [tb_nt32, Nat.testBit_eq_decide_div_mod_eq] at h1
    exact of_decide_eq_true h1
  have hn : nt32 x = 2 ^ k * (nt32 x / 2 ^ k) := by
    have := Nat.div_add_mod (nt32 x) (2 ^ k)
    omega
  generalize hQ : nt32 x / 2 ^ k = q at hq hn
  have hle : nt32 1 ≤ nt32 x := by
    show 1 ≤ nt32 x
    have : 2 ^ k * 1 ≤ 2 ^ k * q := Nat.mul_le_mul_left _ (by omega)
    omega
  have hs : nt32 (x - 1) = 2 ^ k * (q - 1) + (2 ^ k - 1) := by
    rw [nt_sub hle, hn]
    show 2 ^ k * q - 1 = _
    obtain ⟨m, rfl⟩ : ∃ m, q = m + 1 := ⟨q - 1, by omega⟩
    rw [Nat.mul_add, Nat.add_sub_cancel]
    omega
  refine tb_ext (fun i hi => ?_)
  have e2 : tb (Int32.ofInt ((2 ^ k - 1 : Nat) : Int)) i = decide (i < k) := by
    rw [tb_nt32, nt_ofI (by omega), Nat.testBit_two_pow_sub_one]
  rw [e2, tb_and, tb_xor, tb_m1 i hi, Bool.xor_true, tb_nt32 (x - 1), hs, Nat.testBit_two_pow_mul_add _ (by omega)]
  by_cases hik : i < k
  · rw [if_pos hik, h0 i hik, Nat.testBit_two_pow_sub_one, decide_eq_true hik]
    rfl
  · rw [if_neg hik, decide_eq_false hik]
    have ex : tb x i = q.testBit (i - k) := by
      rw [tb_nt32, hn, Nat.testBit_two_pow_mul, decide_eq_true (show k ≤ i by omega), Bool.true_and]
    by_cases e : i = k
    · rw [e, h1]
      rfl
    · have e1 : (q - 1).testBit (i - k) = q.testBit (i - k) := by
        obtain ⟨j, hj⟩ : ∃ j, i - k = j + 1 := ⟨i - k - 1, by omega⟩
        rw [hj, Nat.testBit_succ, Nat.testBit_succ]
        congr 1
        omega
      rw [ex, e1]
      cases q.testBit (i - k) <;> rfl
theorem nz_L {a b : Nat} (h : a < b) (hb : b < 2147483648) : Int32.ofInt (a : Int) < Int32.ofInt (b : Int) := (oi_lt (by omega) (by omega)).mpr (by omega)
theorem nz_N {a b : Nat} (h : b ≤ a) (ha : a < 2147483648) : ¬ Int32.ofInt (a : Int) < Int32.ofInt (b : Int) := fun q => by
  rw [oi_lt (by omega) (by omega)] at q
  omega
theorem nz_u {a s : Nat} (ha : a < 4294967296) (hs : s < 32) : am_ushr (Int32.ofInt (a : Int)) (Int32.ofNat s) = Int32.ofInt ((a / 2 ^ s : Nat) : Int) := by
  refine nt_inj ?_
  have : a / 2 ^ s ≤ a := Nat.div_le_self _ _
  rw [nt_ush _ hs, nt_ofI ha, nt_ofI (by omega)]
theorem nz_s (C y : Int32) : 31 - (C - y) = (31 - C) + y := by
  simp only [Int32.sub_eq_add_neg, Int32.neg_add, Int32.neg_neg, Int32.add_assoc]
theorem nlz_0 {n : Nat} (h1 : 1 ≤ n) (h2 : n < 4) : 31 - v_nlz (Int32.ofInt (n : Int)) = Int32.ofInt ((0 + n / 2 : Nat) : Int) := by
  have u1 : am_ushr (Int32.ofInt ((n : Nat) : Int)) 1 = Int32.ofInt ((n / 2 : Nat) : Int) := nz_u (a := n) (s := 1) (by omega) (by decide)
  unfold v_nlz
  simp only [u1]
  rw [if_pos (show (0 : Int32) < Int32.ofInt (n : Int) from nz_L (a := 0) (by omega) (by omega))]
  rw [if_pos (show Int32.ofInt ((n : Nat) : Int) < 65536 from nz_L (b := 65536) (by omega) (by omega))]
  rw [if_pos (show Int32.ofInt ((n : Nat) : Int) < 256 from nz_L (b := 256) (by omega) (by omega))]
  rw [if_pos (show Int32.ofInt ((n : Nat) : Int) < 16 from nz_L (b := 16) (by omega) (by omega))]
  rw [if_pos (show Int32.ofInt ((n : Nat) : Int) < 4 from nz_L (b := 4) (by omega) (by omega))]
  rw [nz_s, show (31 : Int32) - (31) = Int32.ofInt ((0 : Nat) : Int) by decide, oi_add]
  rfl
theorem nlz_1 {n : Nat} (h1 : 4 ≤ n) (h2 : n < 16) : 31 - v_nlz (Int32.ofInt (n : Int)) = Int32.ofInt ((2 + n / 4 / 2 : Nat) : Int) := by
  have u2 : am_ushr (Int32.ofInt ((n : Nat) : Int)) 2 = Int32.ofInt ((n / 4 : Nat) : Int) := nz_u (a := n) (s := 2) (by omega) (by decide)
  have u2_1 : am_ushr (Int32.ofInt ((n / 4 : Nat) : Int)) 1 = Int32.ofInt ((n / 4 / 2 : Nat) : Int) := nz_u (a := n / 4) (s := 1) (by omega) (by decide)
  unfold v_nlz
  simp only [u2, u2_1]
  rw [if_pos (show (0 : Int32) < Int32.ofInt (n : Int) from nz_L (a := 0) (by omega) (by omega))]
  rw [if_pos (show Int32.ofInt ((n : Nat) : Int) < 65536 from nz_L (b := 65536) (by omega) (by omega))]
  rw [if_pos (show Int32.ofInt ((n : Nat) : Int) < 256 from nz_L (b := 256) (by omega) (by omega))]
  rw [if_pos (show Int32.ofInt ((n : Nat) : Int) < 16 from nz_L (b := 16) (by omega) (by omega))]
  rw [if_neg (show ¬ Int32.ofInt ((n : Nat) : Int) < 4 from nz_N (b := 4) (by omega) (by omega))]
  rw [nz_s, show (31 : Int32) - ((31 + (-2))) = Int32.ofInt ((2 : Nat) : Int) by decide, oi_add]
  rfl
theorem nlz_2 {n : Nat} (h1 : 16 ≤ n) (h2 : n < 64) : 31 - v_nlz (Int32.ofInt (n : Int)) = Int32.ofInt ((4 + n / 16 / 2 : Nat) : Int) := by
  have u4 : am_ushr (Int32.ofInt ((n : Nat) : Int)) 4 = Int32.ofInt ((n / 16 : Nat) : Int) := nz_u (a := n) (s := 4) (by omega) (by decide)
  have u4_1 : am_ushr (Int32.ofInt ((n / 16 : Nat) : Int)) 1 = Int32.ofInt ((n / 16 / 2 : Nat) : Int) := nz_u (a := n / 16) (s := 1) (by omega) (by decide)
  unfold v_nlz
  simp only [u4, u4_1]
  rw [if_pos (show (0 : Int32) < Int32.ofInt (n : Int) from nz_L (a := 0) (by omega) (by omega))]
  rw [if_pos (show Int32.ofInt ((n : Nat) : Int) < 65536 from nz_L (b := 65536) (by omega) (by omega))]
  rw [if_pos (show Int32.ofInt ((n : Nat) : Int) < 256 from nz_L (b := 256) (by omega) (by omega))]
  rw [if_neg (show ¬ Int32.ofInt ((n : Nat) : Int) < 16 from nz_N (b := 16) (by omega) (by omega))]
  rw [if_pos (show Int32.ofInt ((n / 16 : Nat) : Int) < 4 from nz_L (b := 4) (by omega) (by omega))]
  rw [nz_s, show (31 : Int32) - ((31 + (-4))) = Int32.ofInt ((4 : Nat) : Int) by decide, oi_add]
  rfl
theorem nlz_3 {n : Nat} (h1 : 64 ≤ n) (h2 : n < 256) : 31 - v_nlz (Int32.ofInt (n : Int)) = Int32.ofInt ((6 + n / 16 / 4 / 2 : Nat) : Int) := by
  have u4 : am_ushr (Int32.ofInt ((n : Nat) : Int)) 4 = Int32.ofInt ((n / 16 : Nat) : Int) := nz_u (a := n) (s := 4) (by omega) (by decide)
  have u4_2 : am_ushr (Int32.ofInt ((n / 16 : Nat) : Int)) 2 = Int32.ofInt ((n / 16 / 4 : Nat) : Int) := nz_u (a := n / 16) (s := 2) (by omega) (by decide)
  have u4_2_1 : am_ushr (Int32.ofInt ((n / 16 / 4 : Nat) : Int)) 1 = Int32.ofInt ((n / 16 / 4 / 2 : Nat) : Int) := nz_u (a := n / 16 / 4) (s := 1) (by omega) (by decide)
  unfold v_nlz
  simp only [u4, u4_2, u4_2_1]
  rw [if_pos (show (0 : Int32) < Int32.ofInt (n : Int) from nz_L (a := 0) (by omega) (by omega))]
  rw [if_pos (show Int32.ofInt ((n : Nat) : Int) < 65536 from nz_L (b := 65536) (by omega) (by omega))]
  rw [if_pos (show Int32.ofInt ((n : Nat) : Int) < 256 from nz_L (b := 256) (by omega) (by omega))]
  rw [if_neg (show ¬ Int32.ofInt ((n : Nat) : Int) < 16 from nz_N (b := 16) (by omega) (by omega))]
  rw [if_neg (show ¬ Int32.ofInt ((n / 16 : Nat) : Int) < 4 from nz_N (b := 4) (by omega) (by omega))]
  rw [nz_s, show (31 : Int32) - (((31 + (-4)) + (-2))) = Int32.ofInt ((6 : Nat) : Int) by decide, oi_add]
  rfl
theorem nlz_4 {n : Nat} (h1 : 256 ≤ n) (h2 : n < 1024) : 31 - v_nlz (Int32.ofInt (n : Int)) = Int32.ofInt ((8 + n / 256 / 2 : Nat) : Int) := by
  have u8 : am_ushr (Int32.ofInt ((n : Nat) : Int)) 8 = Int32.ofInt ((n / 256 : Nat) : Int) := nz_u (a := n) (s := 8) (by omega) (by decide)
  have u8_1 : am_ushr (Int32.ofInt ((n / 256 : Nat) : Int)) 1 = Int32.ofInt ((n / 256 / 2 : Nat) : Int) := nz_u (a := n / 256) (s := 1) (by omega) (by decide)
  unfold v_nlz
  simp only [u8, u8_1]
  rw [if_pos (show (0 : Int32) < Int32.ofInt (n : Int) from nz_L (a := 0) (by omega) (by omega))]
  rw [if_pos (show Int32.ofInt ((n : Nat) : Int) < 65536 from nz_L (b := 65536) (by omega) (by omega))]
  rw [if_neg (show ¬ Int32.ofInt ((n : Nat) : Int) < 256 from nz_N (b := 256) (by omega) (by omega))]
  rw [if_pos (show Int32.ofInt ((n / 256 : Nat) : Int) < 16 from nz_L (b := 16) (by omega) (by omega))]
  rw [if_pos (show Int32.ofInt ((n / 256 : Nat) : Int) < 4 from nz_L (b := 4) (by omega) (by omega))]
  rw [nz_s, show (31 : Int32) - ((31 + (-8))) = Int32.ofInt ((8 : Nat) : Int) by decide, oi_add]
  rfl
theorem nlz_5 {n : Nat} (h1 : 1024 ≤ n) (h2 : n < 4096) : 31 - v_nlz (Int32.ofInt (n : Int)) = Int32.ofInt ((10 + n / 256 / 4 / 2 : Nat) : Int) := by
  have u8 : am_ushr (Int32.ofInt ((n : Nat) : Int)) 8 = Int32.ofInt ((n / 256 : Nat) : Int) := nz_u (a := n) (s := 8) (by omega) (by decide)
  have u8_2 : am_ushr (Int32.ofInt ((n / 256 : Nat) : Int)) 2 = Int32.ofInt ((n / 256 / 4 : Nat) : Int) := nz_u (a := n / 256) (s := 2) (by omega) (by decide)
  have u8_2_1 : am_ushr (Int32.ofInt ((n / 256 / 4 : Nat) : Int)) 1 = Int32.ofInt ((n / 256 / 4 / 2 : Nat) : Int) := nz_u (a := n / 256 / 4) (s := 1) (by omega) (by decide)
  unfold v_nlz
  simp only [u8, u8_2, u8_2_1]
  rw [if_pos (show (0 : Int32) < Int32.ofInt (n : Int) from nz_L (a := 0) (by omega) (by omega))]
  rw [if_pos (show Int32.ofInt ((n : Nat) : Int) < 65536 from nz_L (b := 65536) (by omega) (by omega))]
  rw [if_neg (show ¬ Int32.ofInt ((n : Nat) : Int) < 256 from nz_N (b := 256) (by omega) (by omega))]
  rw [if_pos (show Int32.ofInt ((n / 256 : Nat) : Int) < 16 from nz_L (b := 16) (by omega) (by omega))]
  rw [if_neg (show ¬ Int32.ofInt ((n / 256 : Nat) : Int) < 4 from nz_N (b := 4) (by omega) (by omega))]
  rw [nz_s, show (31 : Int32) - (((31 + (-8)) + (-2))) = Int32.ofInt ((10 : Nat) : Int) by decide, oi_add]
  rfl
theorem nlz_6 {n : Nat} (h1 : 4096 ≤ n) (h2 : n < 16384) : 31 - v_nlz (Int32.ofInt (n : Int)) = Int32.ofInt ((12 + n / 256 / 16 / 2 : Nat) : Int) := by
  have u8 : am_ushr (Int32.ofInt ((n : Nat) : Int)) 8 = Int32.ofInt ((n / 256 : Nat) : Int) := nz_u (a := n) (s := 8) (by omega) (by decide)
  have u8_4 : am_ushr (Int32.ofInt ((n / 256 : Nat) : Int)) 4 = Int32.ofInt ((n / 256 / 16 : Nat) : Int) := nz_u (a := n / 256) (s := 4) (by omega) (by decide)
  have u8_4_1 : am_ushr (Int32.ofInt ((n / 256 / 16 : Nat) : Int)) 1 = Int32.ofInt ((n / 256 / 16 / 2 : Nat) : Int) := nz_u (a := n / 256 / 16) (s := 1) (by omega) (by decide)
  unfold v_nlz
  simp only [u8, u8_4, u8_4_1]
  rw [if_pos (show (0 : Int32) < Int32.ofInt (n : Int) from nz_L (a := 0) (by omega) (by omega))]
  rw [if_pos (show Int32.ofInt ((n : Nat) : Int) < 65536 from nz_L (b := 65536) (by omega) (by omega))]
  rw [if_neg (show ¬ Int32.ofInt ((n : Nat) : Int) < 256 from nz_N (b := 256) (by omega) (by omega))]
  rw [if_neg (show ¬ Int32.ofInt ((n / 256 : Nat) : Int) < 16 from nz_N (b := 16) (by omega) (by omega))]
  rw [if_pos (show Int32.ofInt ((n / 256 / 16 : Nat) : Int) < 4 from nz_L (b := 4) (by omega) (by omega))]
  rw [nz_s, show (31 : Int32) - (((31 + (-8)) + (-4))) = Int32.ofInt ((12 : Nat) : Int) by decide, oi_add]
  rfl
theorem nlz_7 {n : Nat} (h1 : 16384 ≤ n) (h2 : n < 65536) : 31 - v_nlz (Int32.ofInt (n : Int)) = Int32.ofInt ((14 + n / 256 / 16 / 4 / 2 : Nat) : Int) := by
  have u8 : am_ushr (Int32.ofInt ((n : Nat) : Int)) 8 = Int32.ofInt ((n / 256 : Nat) : Int) := nz_u (a := n) (s := 8) (by omega) (by decide)
  have u8_4 : am_ushr (Int32.ofInt ((n / 256 : Nat) : Int)) 4 = Int32.ofInt ((n / 256 / 16 : Nat) : Int) := nz_u (a := n / 256) (s := 4) (by omega) (by decide)
  have u8_4_2 : am_ushr (Int32.ofInt ((n / 256 / 16 : Nat) : Int)) 2 = Int32.ofInt ((n / 256 / 16 / 4 : Nat) : Int) := nz_u (a := n / 256 / 16) (s := 2) (by omega) (by decide)
  have u8_4_2_1 : am_ushr (Int32.ofInt ((n / 256 / 16 / 4 : Nat) : Int)) 1 = Int32.ofInt ((n / 256 / 16 / 4 / 2 : Nat) : Int) := nz_u (a := n / 256 / 16 / 4) (s := 1) (by omega) (by decide)
  unfold v_nlz
  simp only [u8, u8_4, u8_4_2, u8_4_2_1]
  rw [if_pos (show (0 : Int32) < Int32.ofInt (n : Int) from nz_L (a := 0) (by omega) (by omega))]
  rw [if_pos (show Int32.ofInt ((n : Nat) : Int) < 65536 from nz_L (b := 65536) (by omega) (by omega))]
  rw [if_neg (show ¬ Int32.ofInt ((n : Nat) : Int) < 256 from nz_N (b := 256) (by omega) (by omega))]
  rw [if_neg (show ¬ Int32.ofInt ((n / 256 : Nat) : Int) < 16 from nz_N (b := 16) (by omega) (by omega))]
  rw [if_neg (show ¬ Int32.ofInt ((n / 256 / 16 : Nat) : Int) < 4 from nz_N (b := 4) (by omega) (by omega))]
  rw [nz_s, show (31 : Int32) - ((((31 + (-8)) + (-4)) + (-2))) = Int32.ofInt ((14 : Nat) : Int) by decide, oi_add]
  rfl
theorem nlz_8 {n : Nat} (h1 : 65536 ≤ n) (h2 : n < 262144) : 31 - v_nlz (Int32.ofInt (n : Int)) = Int32.ofInt ((16 + n / 65536 / 2 : Nat) : Int) := by
  have u16 : am_ushr (Int32.ofInt ((n : Nat) : Int)) 16 = Int32.ofInt ((n / 65536 : Nat) : Int) := nz_u (a := n) (s := 16) (by omega) (by decide)
  have u16_1 : am_ushr (Int32.ofInt ((n / 65536 : Nat) : Int)) 1 = Int32.ofInt ((n / 65536 / 2 : Nat) : Int) := nz_u (a := n / 65536) (s := 1) (by omega) (by decide)
  unfold v_nlz
  simp only [u16, u16_1]
  rw [if_pos (show (0 : Int32) < Int32.ofInt (n : Int) from nz_L (a := 0) (by omega) (by omega))]
  rw [if_neg (show ¬ Int32.ofInt ((n : Nat) : Int) < 65536 from nz_N (b := 65536) (by omega) (by omega))]
  rw [if_pos (show Int32.ofInt ((n / 65536 : Nat) : Int) < 256 from nz_L (b := 256) (by omega) (by omega))]
  rw [if_pos (show Int32.ofInt ((n / 65536 : Nat) : Int) < 16 from nz_L (b := 16) (by omega) (by omega))]
  rw [if_pos (show Int32.ofInt ((n / 65536 : Nat) : Int) < 4 from nz_L (b := 4) (by omega) (by omega))]
  rw [nz_s, show (31 : Int32) - ((31 + (-16))) = Int32.ofInt ((16 : Nat) : Int) by decide, oi_add]
  rfl
theorem nlz_9 {n : Nat} (h1 : 262144 ≤ n) (h2 : n < 1048576) : 31 - v_nlz (Int32.ofInt (n : Int)) = Int32.ofInt ((18 + n / 65536 / 4 / 2 : Nat) : Int) := by
  have u16 : am_ushr (Int32.ofInt ((n : Nat) : Int)) 16 = Int32.ofInt ((n / 65536 : Nat) : Int) := nz_u (a := n) (s := 16) (by omega) (by decide)
  have u16_2 : am_ushr (Int32.ofInt ((n / 65536 : Nat) : Int)) 2 = Int32.ofInt ((n / 65536 / 4 : Nat) : Int) := nz_u (a := n / 65536) (s := 2) (by omega) (by decide)
  have u16_2_1 : am_ushr (Int32.ofInt ((n / 65536 / 4 : Nat) : Int)) 1 = Int32.ofInt ((n / 65536 / 4 / 2 : Nat) : Int) := nz_u (a := n / 65536 / 4) (s := 1) (by omega) (by decide)
  unfold v_nlz
  simp only [u16, u16_2, u16_2_1]
  rw [if_pos (show (0 : Int32) < Int32.ofInt (n : Int) from nz_L (a := 0) (by omega) (by omega))]
  rw [if_neg (show ¬ Int32.ofInt ((n : Nat) : Int) < 65536 from nz_N (b := 65536) (by omega) (by omega))]
  rw [if_pos (show Int32.ofInt ((n / 65536 : Nat) : Int) < 256 from nz_L (b := 256) (by omega) (by omega))]
  rw [if_pos (show Int32.ofInt ((n / 65536 : Nat) : Int) < 16 from nz_L (b := 16) (by omega) (by omega))]
  rw [if_neg (show ¬ Int32.ofInt ((n / 65536 : Nat) : Int) < 4 from nz_N (b := 4) (by omega) (by omega))]
  rw [nz_s, show (31 : Int32) - (((31 + (-16)) + (-2))) = Int32.ofInt ((18 : Nat) : Int) by decide, oi_add]
  rfl
theorem nlz_10 {n : Nat} (h1 : 1048576 ≤ n) (h2 : n < 4194304) : 31 - v_nlz (Int32.ofInt (n : Int)) = Int32.ofInt ((20 + n / 65536 / 16 / 2 : Nat) : Int) := by
  have u16 : am_ushr (Int32.ofInt ((n : Nat) : Int)) 16 = Int32.ofInt ((n / 65536 : Nat) : Int) := nz_u (a := n) (s := 16) (by omega) (by decide)
  have u16_4 : am_ushr (Int32.ofInt ((n / 65536 : Nat) : Int)) 4 = Int32.ofInt ((n / 65536 / 16 : Nat) : Int) := nz_u (a := n / 65536) (s := 4) (by omega) (by decide)
  have u16_4_1 : am_ushr (Int32.ofInt ((n / 65536 / 16 : Nat) : Int)) 1 = Int32.ofInt ((n / 65536 / 16 / 2 : Nat) : Int) := nz_u (a := n / 65536 / 16) (s := 1) (by omega) (by decide)
  unfold v_nlz
  simp only [u16, u16_4, u16_4_1]
  rw [if_pos (show (0 : Int32) < Int32.ofInt (n : Int) from nz_L (a := 0) (by omega) (by omega))]
  rw [if_neg (show ¬ Int32.ofInt ((n : Nat) : Int) < 65536 from nz_N (b := 65536) (by omega) (by omega))]
  rw [if_pos (show Int32.ofInt ((n / 65536 : Nat) : Int) < 256 from nz_L (b := 256) (by omega) (by omega))]
  rw [if_neg (show ¬ Int32.ofInt ((n / 65536 : Nat) : Int) < 16 from nz_N (b := 16) (by omega) (by omega))]
  rw [if_pos (show Int32.ofInt ((n / 65536 / 16 : Nat) : Int) < 4 from nz_L (b := 4) (by omega) (by omega))]
  rw [nz_s, show (31 : Int32) - (((31 + (-16)) + (-4))) = Int32.ofInt ((20 : Nat) : Int) by decide, oi_add]
  rfl
theorem nlz_11 {n : Nat} (h1 : 4194304 ≤ n) (h2 : n < 16777216) : 31 - v_nlz (Int32.ofInt (n : Int)) = Int32.ofInt ((22 + n / 65536 / 16 / 4 / 2 : Nat) : Int) := by
  have u16 : am_ushr (Int32.ofInt ((n : Nat) : Int)) 16 = Int32.ofInt ((n / 65536 : Nat) : Int) := nz_u (a := n) (s := 16) (by omega) (by decide)
  have u16_4 : am_ushr (Int32.ofInt ((n / 65536 : Nat) : Int)) 4 = Int32.ofInt ((n / 65536 / 16 : Nat) : Int) := nz_u (a := n / 65536) (s := 4) (by omega) (by decide)
  have u16_4_2 : am_ushr (Int32.ofInt ((n / 65536 / 16 : Nat) : Int)) 2 = Int32.ofInt ((n / 65536 / 16 / 4 : Nat) : Int) := nz_u (a := n / 65536 / 16) (s := 2) (by omega) (by decide)
  have u16_4_2_1 : am_ushr (Int32.ofInt ((n / 65536 / 16 / 4 : Nat) : Int)) 1 = Int32.ofInt ((n / 65536 / 16 / 4 / 2 : Nat) : Int) := nz_u (a := n / 65536 / 16 / 4) (s := 1) (by omega) (by decide)
  unfold v_nlz
  simp only [u16, u16_4, u16_4_2, u16_4_2_1]
  rw [if_pos (show (0 : Int32) < Int32.ofInt (n : Int) from nz_L (a := 0) (by omega) (by omega))]
  rw [if_neg (show ¬ Int32.ofInt ((n : Nat) : Int) < 65536 from nz_N (b := 65536) (by omega) (by omega))]
  rw [if_pos (show Int32.ofInt ((n / 65536 : Nat) : Int) < 256 from nz_L (b := 256) (by omega) (by omega))]
  rw [if_neg (show ¬ Int32.ofInt ((n / 65536 : Nat) : Int) < 16 from nz_N (b := 16) (by omega) (by omega))]
  rw [if_neg (show ¬ Int32.ofInt ((n / 65536 / 16 : Nat) : Int) < 4 from nz_N (b := 4) (by omega) (by omega))]
  rw [nz_s, show (31 : Int32) - ((((31 + (-16)) + (-4)) + (-2))) = Int32.ofInt ((22 : Nat) : Int) by decide, oi_add]
  rfl
theorem nlz_high {x : Int32} (hM : M24 x) {k : Nat} (hk : k < 24) (h1 : tb x k = true) (h0 : ∀ i, k < i → i < 24 → tb x i = false) : 31 - v_nlz x = Int32.ofInt (k : Int) := by
  have hx : x = Int32.ofInt (nt32 x : Int) := by
    refine nt_inj ?_
    rw [nt_ofI (nt_lt x)]
  have lo : 2 ^ k ≤ nt32 x := by
    rw [tb_nt32, Nat.testBit_eq_decide_div_mod_eq] at h1
    have h1 := of_decide_eq_true h1
    rcases Nat.lt_or_ge (nt32 x) (2 ^ k) with q | q
    · rw [Nat.div_eq_of_lt q] at h1
      omega
    · exact q
  have hi : nt32 x < 2 ^ (k + 1) := by
    refine Nat.lt_pow_two_of_testBit _ (fun i hi => ?_)
    rw [← tb_nt32]
    rcases Nat.lt_or_ge i 24 with q | q
    · exact h0 i (by omega) q
    · exact hM i q
  rw [hx]
  revert lo hi
  generalize nt32 x = n
  intro lo hi
  have kk : k = 0 ∨ k = 1 ∨ k = 2 ∨ k = 3 ∨ k = 4 ∨ k = 5 ∨ k = 6 ∨ k = 7 ∨ k = 8 ∨ k = 9 ∨ k = 10 ∨ k = 11 ∨ k = 12 ∨ k = 13 ∨ k = 14 ∨ k = 15 ∨ k = 16 ∨ k = 17 ∨ k = 18 ∨ k = 19 ∨ k = 20 ∨ k = 21 ∨ k = 22 ∨ k = 23 := by omega
  rcases kk with rfl | rfl | rfl | rfl | rfl | rfl | rfl | rfl | rfl | rfl | rfl | rfl | rfl | rfl | rfl | rfl | rfl | rfl | rfl | rfl | rfl | rfl | rfl | rfl
  · rw [nlz_0 (by omega) (by omega)]
    congr 2
    omega
  · rw [nlz_0 (by omega) (by omega)]
    congr 2
    omega
  · rw [nlz_1 (by omega) (by omega)]
    congr 2
    omega
  · rw [nlz_1 (by omega) (by omega)]
    congr 2
    omega
  · rw [nlz_2 (by omega) (by omega)]
    congr 2
    omega
  · rw [nlz_2 (by omega) (by omega)]
    congr 2
    omega
  · rw [nlz_3 (by omega) (by omega)]
    congr 2
    omega
  · rw [nlz_3 (by omega) (by omega)]
    congr 2
    omega
  · rw [nlz_4 (by omega) (by omega)]
    congr 2
    omega
  · rw [nlz_4 (by omega) (by omega)]
    congr 2
    omega
  · rw [nlz_5 (by omega) (by omega)]
    congr 2
    omega
  · rw [nlz_5 (by omega) (by omega)]
    congr 2
    omega
  · rw [nlz_6 (by omega) (by omega)]
    congr 2
    omega
  · rw [nlz_6 (by omega) (by omega)]
    congr 2
    omega
  · rw [nlz_7 (by omega) (by omega)]
    congr 2
    omega
  · rw [nlz_7 (by omega) (by omega)]
    congr 2
    omega
  · rw [nlz_8 (by omega) (by omega)]
    congr 2
    omega
  · rw [nlz_8 (by omega) (by omega)]
    congr 2
    omega
  · rw [nlz_9 (by omega) (by omega)]
    congr 2
    omega
  · rw [nlz_9 (by omega) (by omega)]
    congr 2
    omega
  · rw [nlz_10 (by omega) (by omega)]
    congr 2
    omega
  · rw [nlz_10 (by omega) (by omega)]
    congr 2
    omega
  · rw [nlz_11 (by omega) (by omega)]
    congr 2
    omega
  · rw [nlz_11 (by omega) (by omega)]
    congr 2
    omega
