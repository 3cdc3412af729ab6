theorem c_63 {X : am_X} {d : Nat} {I : Nat → Nat → Int32} {J : Nat → Nat → Int64} {Q : Option Value → am_M → Prop} {x0 : Int32} {x1 : Int32} {x2 : Int32} {x3 : Int32} (k : am_wp X (d + 1) 63 6 [.ref 88, .int x0, .int x1, .int x2, .int x3, .int 0, .int 0, am_uv] [] (am_N I J) Q) : am_wp X (d + 1) 63 0 [.ref 88, .int x0, .int x1, .int x2, .int x3, am_uv, am_uv, am_uv] [] (am_N I J) Q := s63_0 (s63_1 rfl (s63_3 (s63_4 rfl (k))))
theorem c_62 {X : am_X} {d : Nat} {I : Nat → Nat → Int32} {J : Nat → Nat → Int64} {Q : Option Value → am_M → Prop} {x0 : Int32} {x1 : Int32} {x2 : Int32} (k : am_wp X (d + 2) 62 11 [.ref 88, .int x0, .int x1, .int x2, .int 0, am_uv, am_uv, am_uv] [] (am_N (am_fil I 89 8 0) J) Q) : am_wp X (d + 2) 62 0 [.ref 88, .int x0, .int x1, .int x2, am_uv, am_uv, am_uv, am_uv] [] (am_N I J) Q := s62_0 (s62_1 k0_88 p0_88_6 (s62_4 (s62_5 (Nat.le_of_ble_eq_true rfl) (w_fill k0_89 (by decide) (am_aft0 (s62_8 (s62_9 rfl (k))))))))
theorem c_61 {X : am_X} {d : Nat} {I : Nat → Nat → Int32} {J : Nat → Nat → Int64} {Q : Option Value → am_M → Prop} {x0 : Int32} (k : (((I 88 1) = x0 → Q none (am_N I J)) ∧ (¬ (I 88 1) = x0 → am_wp X (d + 3) 61 22 [.ref 88, .int x0, .int 0, am_uv] [] (am_N (am_up (am_up I 88 1 x0) 88 3 2147483647) J) Q))) : am_wp X (d + 3) 61 0 [.ref 88, .int x0, am_uv, am_uv] [] (am_N I J) Q := s61_0 (s61_1 k0_88 (s61_4 (s61_5 (fun h3191 => have k := k.1 h3191; s61_8 (k)) (fun h3191 => have k := k.2 h3191; s61_9 (s61_10 (s61_11 k0_88 (s61_14 (s61_15 (s61_17 k0_88 (s61_20 (s61_21 rfl (k))))))))))))
theorem c_63_6 {X : am_X} {d : Nat} {I : Nat → Nat → Int32} {J : Nat → Nat → Int64} {Q : Option Value → am_M → Prop} {x0 x1 x2 x3 f m : Int32} {u7 : Value} (hu7 : u7.category = 1) (k : ((4 ≤ m → Q (some (.int f)) (am_N I J)) ∧ (¬ 4 ≤ m → (am_ix ((x0 * 4) + m) 576 ∧ ((((I 84 (Int32.toNatClampNeg ((x0 * 4) + m))) &&& 5592405) = 0 → am_wp X (d + 1) 63 6 [.ref 88, .int x0, .int x1, .int x2, .int x3, .int f, .int (m + 1), .int ((I 84 (Int32.toNatClampNeg ((x0 * 4) + m))) &&& 5592405)] [] (am_N I J) Q) ∧ (¬ ((I 84 (Int32.toNatClampNeg ((x0 * 4) + m))) &&& 5592405) = 0 → am_wp X (d + 1) 63 6 [.ref 88, .int x0, .int x1, .int x2, .int x3, .int (f + (v_bitCount (((I 84 (Int32.toNatClampNeg ((x0 * 4) + m))) &&& 5592405) &&& (v_strongEnough (v_farOf x1 x2 m) x3)))), .int (m + 1), .int ((I 84 (Int32.toNatClampNeg ((x0 * 4) + m))) &&& 5592405)] [] (am_N I J) Q)))))) : am_wp X (d + 1) 63 6 [.ref 88, .int x0, .int x1, .int x2, .int x3, .int f, .int m, u7] [] (am_N I J) Q := s63_6 (s63_8 (s63_9 (fun h3192 => have k := k.1 h3192; s63_65 (s63_67 (k))) (fun h3192 => have k := k.2 h3192; s63_12 (s63_13 k0_88 p0_88_0 (s63_16 k0_83 p0_83_1 (s63_19 (s63_20 (s63_21 (s63_22 (s63_24 (have b3193 := k.1; have k := k.2; s63_25 k0_84 b3193 (s63_26 (s63_28 (s63_29 rfl (s63_31 (s63_33 (fun h3194 => have k := k.1 h3194; s63_59 rfl (s63_62 (k))) (fun h3194 => have k := k.2 h3194; s63_36 (s63_38 (s63_40 (s63_41 (s63_42 (s63_44 (Nat.le_of_ble_eq_true rfl) (w_farOf (am_aft (s63_47 (s63_49 (Nat.le_of_ble_eq_true rfl) (w_strongEnough (am_aft (s63_52 (s63_53 (Nat.le_of_ble_eq_true rfl) (w_bitCount (am_aft (s63_56 (s63_57 rfl (s63_59 rfl (s63_62 (k)))))))))))))))))))))))))))))))))))))
/-! NEXT: the class's numbers -/
def dX (x : Int32) (c : Nat) : Int32 := x - Int32.ofInt ((c / 48 : Nat) : Int)
def dY (y : Int32) (c : Nat) : Int32 := y - Int32.ofInt ((c / 4 % 12 : Nat) : Int)
def cwy (x y : Int32) (c : Nat) : Int32 := v_wayOf (dX x c) (dY y c)
def cdb (f : Nat → Int32) (x y v : Int32) (c : Nat) : Int32 := (f c &&& 5592405) &&& v_strongEnough (v_farOf (dX x c) (dY y c) (Int32.ofInt ((c % 4 : Nat) : Int))) v
def Kw (f : Nat → Int32) (x y v : Int32) (w : Nat) : Nat → Nat
  | 0 => 0
  | c + 1 => Kw f x y v w c + (if cwy x y c = Int32.ofInt (w : Int) then pcn (cdb f x y v c) 24 else 0)
def n63 (f : Nat → Int32) (m : Nat) (a b v : Int32) : Nat → Nat
  | 0 => 0
  | z + 1 => n63 f m a b v z + pcn ((f (4 * m + z) &&& 5592405) &&& v_strongEnough (v_farOf a b (Int32.ofInt (z : Int))) v) 24
theorem Kw_le (f : Nat → Int32) (x y v : Int32) (w : Nat) : ∀ c, Kw f x y v w c ≤ 24 * c := by
  intro c
  induction c with
  | zero => exact Nat.le_refl 0
  | succ c ih =>
    have := pcn_le (cdb f x y v c) 24
    show Kw f x y v w c + (if cwy x y c = Int32.ofInt (w : Int) then pcn (cdb f x y v c) 24 else 0) ≤ 24 * (c + 1)
    split <;> omega
theorem n63_le (f : Nat → Int32) (m : Nat) (a b v : Int32) : ∀ z, n63 f m a b v z ≤ 24 * z := by
  intro z
  induction z with
  | zero => exact Nat.le_refl 0
  | succ z ih =>
    have := pcn_le ((f (4 * m + z) &&& 5592405) &&& v_strongEnough (v_farOf a b (Int32.ofInt (z : Int))) v) 24
    show n63 f m a b v z + pcn ((f (4 * m + z) &&& 5592405) &&& v_strongEnough (v_farOf a b (Int32.ofInt (z : Int))) v) 24 ≤ 24 * (z + 1)
    omega
theorem Kw_cg {f f' : Nat → Int32} (x y v : Int32) (w : Nat) : ∀ c, (∀ q, q < c → f' q = f q) → Kw f' x y v w c = Kw f x y v w c := by
  intro c
  induction c with
  | zero => intro _; rfl
  | succ c ih =>
    intro h
    show Kw f' x y v w c + (if cwy x y c = Int32.ofInt (w : Int) then pcn (cdb f' x y v c) 24 else 0) = Kw f x y v w c + (if cwy x y c = Int32.ofInt (w : Int) then pcn (cdb f x y v c) 24 else 0)
    have e : cdb f' x y v c = cdb f x y v c := by
      unfold cdb
      rw [h c (by omega)]
    rw [ih (fun q hq => h q (by omega)), e]
theorem Kw4 (f : Nat → Int32) (x y v : Int32) (w m : Nat) : Kw f x y v w (4 * (m + 1)) = Kw f x y v w (4 * m) + (if v_wayOf (x - Int32.ofInt ((m / 12 : Nat) : Int)) (y - Int32.ofInt ((m % 12 : Nat) : Int)) = Int32.ofInt (w : Int) then n63 f m (x - Int32.ofInt ((m / 12 : Nat) : Int)) (y - Int32.ofInt ((m % 12 : Nat) : Int)) v 4 else 0) := by
  have ex : ∀ i, i < 4 → dX x (4 * m + i) = x - Int32.ofInt ((m / 12 : Nat) : Int) := by
    intro i hi
    unfold dX
    rw [show (4 * m + i) / 48 = m / 12 by omega]
  have ey : ∀ i, i < 4 → dY y (4 * m + i) = y - Int32.ofInt ((m % 12 : Nat) : Int) := by
    intro i hi
    unfold dY
    rw [show (4 * m + i) / 4 % 12 = m % 12 by omega]
  obtain ⟨T, hT⟩ : ∃ T : Nat → Nat, T = fun i => pcn ((f (4 * m + i) &&& 5592405) &&& v_strongEnough (v_farOf (x - Int32.ofInt ((m / 12 : Nat) : Int)) (y - Int32.ofInt ((m % 12 : Nat) : Int)) (Int32.ofInt (i : Int))) v) 24 := ⟨_, rfl⟩
  have en : n63 f m (x - Int32.ofInt ((m / 12 : Nat) : Int)) (y - Int32.ofInt ((m % 12 : Nat) : Int)) v 4 = T 0 + T 1 + T 2 + T 3 := by
    rw [hT, ← Nat.zero_add (_ + _ + _ + _), ← Nat.add_assoc, ← Nat.add_assoc, ← Nat.add_assoc]
    rfl
  have st : ∀ i, i < 4 → Kw f x y v w (4 * m + i + 1) = Kw f x y v w (4 * m + i) + (if v_wayOf (x - Int32.ofInt ((m / 12 : Nat) : Int)) (y - Int32.ofInt ((m % 12 : Nat) : Int)) = Int32.ofInt (w : Int) then T i else 0) := by
    intro i hi
    show Kw f x y v w (4 * m + i) + (if cwy x y (4 * m + i) = Int32.ofInt (w : Int) then pcn (cdb f x y v (4 * m + i)) 24 else 0) = _
    unfold cwy cdb
    rw [ex i hi, ey i hi, show (4 * m + i) % 4 = i by omega, hT]
  have s0 : Kw f x y v w (4 * m + 1) = Kw f x y v w (4 * m) + _ := st 0 (by omega)
  have s1 : Kw f x y v w (4 * m + 2) = Kw f x y v w (4 * m + 1) + _ := st 1 (by omega)
  have s2 : Kw f x y v w (4 * m + 3) = Kw f x y v w (4 * m + 2) + _ := st 2 (by omega)
  have s3 : Kw f x y v w (4 * (m + 1)) = Kw f x y v w (4 * m + 3) + _ := st 3 (by omega)
  rw [s3, s2, s1, s0, en]
  by_cases h : v_wayOf (x - Int32.ofInt ((m / 12 : Nat) : Int)) (y - Int32.ofInt ((m % 12 : Nat) : Int)) = Int32.ofInt (w : Int)
  · simp only [if_pos h]
    omega
  · simp only [if_neg h, Nat.add_zero]
theorem sub3 (a b c : Int32) : a - b - c = a - (b + c) := by
  rw [Int32.sub_eq_add_neg, Int32.sub_eq_add_neg, Int32.sub_eq_add_neg, Int32.neg_add, Int32.sub_eq_add_neg, Int32.add_assoc]
/-- the greatest of numbers -/
def mxD (D : Nat → Nat) : Nat → Int32
  | 0 => 0
  | m + 1 => am_max (mxD D m) (Int32.ofInt (D m : Int))
def smD (D : Nat → Nat) : Nat → Nat
  | 0 => 0
  | m + 1 => smD D m + D m
def Wst (f : Nat → Int32) (n x y v : Int32) : Int32 := am_max (mxD (fun w => Kw f x y v w 576) 8) (n - Int32.ofInt (smD (fun w => Kw f x y v w 576) 8 : Int))
def p63 (I : Nat → Nat → Int32) (x : Int32) : Prop := (∃ m : Nat, m < 144 ∧ x = Int32.ofInt (m : Int)) ∧ ∀ q, q < 576 → M24 (I 84 q)
def v63 (I : Nat → Nat → Int32) (x0 x1 x2 x3 : Int32) : Int32 := Int32.ofInt (n63 (I 84) (Int32.toNatClampNeg x0) x1 x2 x3 4 : Int)
theorem w_63 {X : am_X} {d : Nat} {I : Nat → Nat → Int32} {J : Nat → Nat → Int64} {Q : Option Value → am_M → Prop} {x0 x1 x2 x3 : Int32} (h : p63 I x0) (k : Q (some (.int (v63 I x0 x1 x2 x3))) (am_N I J)) : am_wp X (d + 1) 63 0 [.ref 88, .int x0, .int x1, .int x2, .int x3, am_uv, am_uv, am_uv] [] (am_N I J) Q := by
  obtain ⟨⟨m, hm, rfl⟩, hM⟩ := h
  unfold v63 at k
  rw [oi_cln (by omega)] at k
  refine c_63 ?_
  refine am_down (N := 4) (P := fun z => ∀ u : Value, u.category = 1 → am_wp X (d + 1) 63 6 [.ref 88, .int (Int32.ofInt (m : Int)), .int x1, .int x2, .int x3, .int (Int32.ofInt (n63 (I 84) m x1 x2 x3 z : Int)), .int (Int32.ofInt (z : Int)), u] [] (am_N I J) Q) ?_ ?_ 0 (by decide) am_uv rfl
  · intro u hu
    exact c_63_6 hu ⟨fun _ => k, fun h => absurd (show Int32.ofInt 4 ≤ Int32.ofInt 4 from Int32.le_refl _) h⟩
  · intro z hz ih u hu
    have e : Int32.ofInt (m : Int) * 4 + Int32.ofInt (z : Int) = Int32.ofInt ((4 * m + z : Nat) : Int) := by
      rw [show (4 : Int32) = Int32.ofInt 4 from rfl, oi_mul, oi_add]
      congr 1
      omega
    refine c_63_6 hu ⟨fun h => absurd h (by rw [show (4 : Int32) = Int32.ofInt 4 from rfl, oi_le (by omega) (by omega)]; omega), fun _ => ?_⟩
    rw [e, oi_cln (by omega), oi_succ]
    refine ⟨oi_ix (by omega) (by omega) (by omega), fun h => ?_, fun _ => ?_⟩
    · have q : n63 (I 84) m x1 x2 x3 (z + 1) = n63 (I 84) m x1 x2 x3 z := by
        show n63 (I 84) m x1 x2 x3 z + pcn ((I 84 (4 * m + z) &&& 5592405) &&& v_strongEnough (v_farOf x1 x2 (Int32.ofInt (z : Int))) x3) 24 = _
        rw [h, show ∀ y : Int32, 0 &&& y = 0 from fun y => M24.ext (M24.z.andl) M24.z (fun i _ => by rw [tb_and, tb_0]; rfl), pcn_0]
        rfl
      rw [← q]
      exact ih _ rfl
    · rw [bitCount_24 ((hM (4 * m + z) (by omega)).andl.andl), oi_add]
      exact ih _ rfl
def wd (I I' : Nat → Nat → Int32) : Prop := ∀ a k, ¬ a = 89 → I' a k = I a k
def p62 (I : Nat → Nat → Int32) : Prop := ∀ q, q < 576 → M24 (I 84 q)
theorem way8 (a b : Int32) : gR (v_wayOf a b) 0 8 := way_gR
theorem c_62_11 {X : am_X} {d : Nat} {I : Nat → Nat → Int32} {J : Nat → Nat → Int64} {Q : Option Value → am_M → Prop} {x0 x1 x2 m : Int32} {u5 : Value} (hu5 : u5.category = 1) {u6 : Value} (hu6 : u6.category = 1) {u7 : Value} (hu7 : u7.category = 1) (k : ((144 ≤ m → am_wp X (d + 2) 62 95 [.ref 88, .int x0, .int x1, .int x2, .int 0, .int (I 83 4), .int 0, u7] [] (am_N I J) Q) ∧ (¬ 144 ≤ m → (((v_wayOf (x0 - (m / 12)) (x1 - (am_rem m 12))) = 8 → am_wp X (d + 2) 62 11 [.ref 88, .int x0, .int x1, .int x2, .int (m + 1), .int (x0 - (m / 12)), .int (x1 - (am_rem m 12)), .int (v_wayOf (x0 - (m / 12)) (x1 - (am_rem m 12)))] [] (am_N I J) Q) ∧ (¬ (v_wayOf (x0 - (m / 12)) (x1 - (am_rem m 12))) = 8 → (am_ix (v_wayOf (x0 - (m / 12)) (x1 - (am_rem m 12))) 8 ∧ (p63 I m ∧ (am_ix (v_wayOf (x0 - (m / 12)) (x1 - (am_rem m 12))) 8 ∧ am_wp X (d + 2) 62 11 [.ref 88, .int x0, .int x1, .int x2, .int (m + 1), .int (x0 - (m / 12)), .int (x1 - (am_rem m 12)), .int (v_wayOf (x0 - (m / 12)) (x1 - (am_rem m 12)))] [] (am_N (am_up I 89 (Int32.toNatClampNeg (v_wayOf (x0 - (m / 12)) (x1 - (am_rem m 12)))) ((I 89 (Int32.toNatClampNeg (v_wayOf (x0 - (m / 12)) (x1 - (am_rem m 12))))) + (v63 I m (x0 - (m / 12)) (x1 - (am_rem m 12)) x2))) J) Q)))))))) : am_wp X (d + 2) 62 11 [.ref 88, .int x0, .int x1, .int x2, .int m, u5, u6, u7] [] (am_N I J) Q := s62_11 (s62_13 (s62_16 (fun h3195 => have k := k.1 h3195; s62_80 (s62_81 rfl (s62_83 (s62_84 k0_88 p0_88_0 (s62_87 k0_83 (s62_90 rfl (s62_92 (s62_93 rfl (k))))))))) (fun h3195 => have k := k.2 h3195; s62_19 (s62_20 (s62_22 (s62_24 (by decide) (s62_25 (s62_26 rfl (s62_28 (s62_29 (s62_31 (s62_33 (by decide) (s62_34 (s62_35 rfl (s62_37 (s62_39 (s62_41 (Nat.le_of_ble_eq_true rfl) (w_wayOf (am_aft (s62_44 rfl (s62_46 (s62_48 (s62_50 (fun h3196 => have k := k.1 h3196; s62_74 rfl (s62_77 (k))) (fun h3196 => have k := k.2 h3196; s62_53 (s62_54 k0_88 p0_88_6 (s62_57 (s62_59 rfl rfl (have b3197 := k.1; have k := k.2; s62_60 k0_89 b3197 (s62_61 (s62_62 (s62_64 (s62_66 (s62_68 (s62_69 k0_88 (Nat.le_of_ble_eq_true rfl) (w_63 k.1 (have k := k.2; am_aft (s62_72 (have b3198 := k.1; have k := k.2; s62_73 k0_89 b3198 (s62_74 rfl (s62_77 (k)))))))))))))))))))))))))))))))))))))))))
theorem c_62_95 {X : am_X} {d : Nat} {I : Nat → Nat → Int32} {J : Nat → Nat → Int64} {Q : Option Value → am_M → Prop} {x0 x1 x2 w l m : Int32} {u7 : Value} (hu7 : u7.category = 1) (k : ((8 ≤ m → Q (some (.int (am_max w l))) (am_N I J)) ∧ (¬ 8 ≤ m → (am_ix m 8 ∧ (am_ix m 8 ∧ am_wp X (d + 2) 62 95 [.ref 88, .int x0, .int x1, .int x2, .int (am_max w (I 89 (Int32.toNatClampNeg m))), .int (l - (I 89 (Int32.toNatClampNeg m))), .int (m + 1), u7] [] (am_N I J) Q))))) : am_wp X (d + 2) 62 95 [.ref 88, .int x0, .int x1, .int x2, .int w, .int l, .int m, u7] [] (am_N I J) Q := s62_95 (s62_97 (s62_98 k0_88 p0_88_6 (s62_101 k0_89 (by decide) (s62_102 (fun h3199 => have k := k.1 h3199; s62_137 (s62_139 (s62_141 (Nat.le_of_ble_eq_true rfl) (s62_144 (k))))) (fun h3199 => have k := k.2 h3199; s62_105 (s62_107 (s62_108 k0_88 p0_88_6 (s62_111 (have b3200 := k.1; have k := k.2; s62_113 k0_89 b3200 (s62_114 (Nat.le_of_ble_eq_true rfl) (s62_117 rfl (s62_119 (s62_121 (s62_122 k0_88 p0_88_6 (s62_125 (have b3201 := k.1; have k := k.2; s62_127 k0_89 b3201 (s62_128 (s62_129 rfl (s62_131 rfl (s62_134 (k)))))))))))))))))))))
theorem dv12 {m : Nat} (hm : m < 144) : Int32.ofInt (m : Int) / 12 = Int32.ofInt ((m / 12 : Nat) : Int) := by
  rw [show (12 : Int32) = Int32.ofInt 12 from rfl, oi_div (by omega) (by omega) (by omega) (by omega)]
  congr 1
theorem rm12 {m : Nat} (hm : m < 144) : am_rem (Int32.ofInt (m : Int)) 12 = Int32.ofInt ((m % 12 : Nat) : Int) := by
  rw [show (12 : Int32) = Int32.ofInt 12 from rfl, oi_rem (by omega) (by omega) (by omega) (by omega)]
  congr 1
theorem w_62 {X : am_X} {d : Nat} {I : Nat → Nat → Int32} {J : Nat → Nat → Int64} {Q : Option Value → am_M → Prop} {x0 x1 x2 : Int32} (h : p62 I) (k : ∀ I' : Nat → Nat → Int32, wd I I' → Q (some (.int (Wst (I 84) (I 83 4) x0 x1 x2))) (am_N I' J)) : am_wp X (d + 2) 62 0 [.ref 88, .int x0, .int x1, .int x2, am_uv, am_uv, am_uv, am_uv] [] (am_N I J) Q := by
  refine c_62 ?_
  refine am_down (N := 144) (P := fun m => ∀ (u5 u6 u7 : Value) (I' : Nat → Nat → Int32), u5.category = 1 → u6.category = 1 → u7.category = 1 → wd I I' → (∀ w, w < 8 → I' 89 w = Int32.ofInt (Kw (I 84) x0 x1 x2 w (4 * m) : Int)) → am_wp X (d + 2) 62 11 [.ref 88, .int x0, .int x1, .int x2, .int (Int32.ofInt (m : Int)), u5, u6, u7] [] (am_N I' J) Q) ?_ ?_ 0 (by omega) am_uv am_uv am_uv _ rfl rfl rfl (fun a j p => by rw [am_filv, if_neg (by omega)]) (fun w hw => by rw [am_filv, if_pos (by omega)]; rfl)
  · intro u5 u6 u7 I' h5 h6 h7 hs hd
    refine c_62_11 h5 h6 h7 ⟨fun _ => ?_, fun q => absurd (by decide) q⟩
    refine am_down (N := 8) (P := fun m => ∀ (a b : Int32), a = mxD (fun w => Kw (I 84) x0 x1 x2 w 576) m → b = I 83 4 - Int32.ofInt (smD (fun w => Kw (I 84) x0 x1 x2 w 576) m : Int) → am_wp X (d + 2) 62 95 [.ref 88, .int x0, .int x1, .int x2, .int a, .int b, .int (Int32.ofInt (m : Int)), u7] [] (am_N I' J) Q) ?_ ?_ 0 (by omega) 0 (I' 83 4) rfl ?_
    · intro a b ha hb
      refine c_62_95 h7 ⟨fun _ => ?_, fun q => absurd (by decide) q⟩
      rw [ha, hb]
      exact k I' hs
    · intro m hm ih a b ha hb
      have ix : am_ix (Int32.ofInt (m : Int)) 8 := oi_ix (by omega) (by omega) (by omega)
      refine c_62_95 h7 ⟨fun q => absurd q (by rw [show (8 : Int32) = Int32.ofInt 8 from rfl, oi_le (by omega) (by omega)]; omega), fun _ => ⟨ix, ix, ?_⟩⟩
      rw [oi_cln (by omega), hd m (by omega), oi_succ]
      refine ih _ _ (by rw [ha]; rfl) ?_
      rw [hb, sub3, oi_add]
      rfl
    · rw [hs 83 4 (by omega)]
      show I 83 4 = I 83 4 - 0
      rw [Int32.sub_zero]
  · intro m hm ih u5 u6 u7 I' h5 h6 h7 hs hd
    refine c_62_11 h5 h6 h7 ⟨fun q => absurd q (by rw [show (144 : Int32) = Int32.ofInt 144 from rfl, oi_le (by omega) (by omega)]; omega), fun _ => ?_⟩
    rw [dv12 hm, rm12 hm, oi_succ]
    have e84 : I' 84 = I 84 := funext fun q => hs 84 q (by omega)
    obtain ⟨W, W1, W2, eW⟩ := way8 (x0 - Int32.ofInt ((m / 12 : Nat) : Int)) (x1 - Int32.ofInt ((m % 12 : Nat) : Int))
    refine ⟨fun q => ih _ _ _ I' rfl rfl rfl hs (fun w hw => ?_), fun q => ?_⟩
    · rw [Kw4, if_neg, hd w hw]
      · rfl
      · rw [q]
        intro z
        have := (oi_eq (a := 8) (b := (w : Int)) (by omega) (by omega)).mp z
        omega
    · have W8 : W < 8 := by
        rcases Int.lt_or_le W 8 with z | z
        · exact z
        · exact absurd (by rw [eW, show W = 8 by omega]; rfl) q
      have ix : am_ix (v_wayOf (x0 - Int32.ofInt ((m / 12 : Nat) : Int)) (x1 - Int32.ofInt ((m % 12 : Nat) : Int))) 8 := by
        rw [eW]
        exact oi_ix (by omega) (by omega) (by omega)
      have cW : Int32.toNatClampNeg (v_wayOf (x0 - Int32.ofInt ((m / 12 : Nat) : Int)) (x1 - Int32.ofInt ((m % 12 : Nat) : Int))) = W.toNat := by rw [eW, oi_cl (by omega)]
      refine ⟨ix, ⟨⟨m, hm, rfl⟩, fun q hq => by rw [e84]; exact h q hq⟩, ix, ?_⟩
      refine ih _ _ _ _ rfl rfl rfl (fun a j p => by rw [am_upv, if_neg (by omega)]; exact hs a j p) (fun w hw => ?_)
      rw [cW, am_upv, Kw4]
      by_cases e : w = W.toNat
      · have ew : Int32.ofInt W = Int32.ofInt (w : Int) := congrArg Int32.ofInt (by omega)
        rw [if_pos ⟨rfl, e⟩, eW, if_pos ew, ← e, hd w hw]
        unfold v63
        rw [e84, oi_cln (by omega), oi_add]
        rfl
      · rw [if_neg (by omega), eW, if_neg, hd w hw]
        · rfl
        · intro z
          have := (oi_eq (b := (w : Int)) (by omega) (by omega)).mp z
          omega
