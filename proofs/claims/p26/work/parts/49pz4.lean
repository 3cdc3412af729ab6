theorem c3_214 {X : am_X} {d : Nat} {I : Nat → Nat → Int32} {J : Nat → Nat → Int64} {Q : Option Value → am_M → Prop} (k : am_wp X (d + 2) 214 3 [.ref 105, .int (-11), am_uv] [] (am_N I J) Q) : am_wp X (d + 2) 214 0 [.ref 105, am_uv, am_uv] [] (am_N I J) Q := s214_0 (s214_2 rfl (k))
theorem c3_214_3 {X : am_X} {d : Nat} {I : Nat → Nat → Int32} {J : Nat → Nat → Int64} {Q : Option Value → am_M → Prop} {m : Int32} {u2 : Value} (hu2 : u2.category = 1) (k : ((12 ≤ m → Q none (am_N I J)) ∧ (¬ 12 ≤ m → am_wp X (d + 2) 214 12 [.ref 105, .int m, .int (-11)] [] (am_N I J) Q))) : am_wp X (d + 2) 214 3 [.ref 105, .int m, u2] [] (am_N I J) Q := s214_3 (s214_4 (s214_6 (fun h3214 => have k := k.1 h3214; s214_53 (k)) (fun h3214 => have k := k.2 h3214; s214_9 (s214_11 rfl (k)))))
theorem c3_214_12 {X : am_X} {d : Nat} {I : Nat → Nat → Int32} {J : Nat → Nat → Int64} {Q : Option Value → am_M → Prop} {a m : Int32} (k : ((12 ≤ m → am_wp X (d + 2) 214 3 [.ref 105, .int (a + 1), .int m] [] (am_N I J) Q) ∧ (¬ 12 ≤ m → (am_ix (((23 * (a + 11)) + m) + 11) 529 ∧ am_wp X (d + 2) 214 12 [.ref 105, .int a, .int (m + 1)] [] (am_N (am_up I 138 (Int32.toNatClampNeg (((23 * (a + 11)) + m) + 11)) (v_m_wayOf a m 0)) J) Q)))) : am_wp X (d + 2) 214 12 [.ref 105, .int a, .int m] [] (am_N I J) Q := s214_12 (s214_13 (s214_15 (fun h3215 => have k := k.1 h3215; s214_47 rfl (s214_50 (k))) (fun h3215 => have k := k.2 h3215; s214_18 (s214_19 k0_105 p0_105_55 (s214_22 (s214_24 (s214_25 (s214_27 (s214_28 (s214_29 (s214_30 (s214_31 (s214_33 (s214_34 (s214_35 (s214_36 (s214_37 (Nat.le_of_ble_eq_true rfl) (w_m_wayOf (am_aft (have b3216 := k.1; have k := k.2; s214_40 k0_138 b3216 (s214_41 rfl (s214_44 (k)))))))))))))))))))))))
theorem c3_215 {X : am_X} {d : Nat} {I : Nat → Nat → Int32} {J : Nat → Nat → Int64} {Q : Option Value → am_M → Prop} {x0 : Int32} {x1 : Int32} {x2 : Int32} (k : am_wp X (d + 1) 215 3 [.ref 105, .int x0, .int x1, .int x2, .int 0, am_uv, am_uv, am_uv] [] (am_N I J) Q) : am_wp X (d + 1) 215 0 [.ref 105, .int x0, .int x1, .int x2, am_uv, am_uv, am_uv, am_uv] [] (am_N I J) Q := s215_0 (s215_1 rfl (k))
theorem c3_215_3 {X : am_X} {d : Nat} {I : Nat → Nat → Int32} {J : Nat → Nat → Int64} {Q : Option Value → am_M → Prop} {x0 x1 x2 m : Int32} {u5 : Value} (hu5 : u5.category = 1) {u6 : Value} (hu6 : u6.category = 1) {u7 : Value} (hu7 : u7.category = 1) (k : ((9 ≤ m → am_wp X (d + 1) 215 27 [.ref 105, .int x0, .int x1, .int x2, .int 0, u5, u6, u7] [] (am_N I J) Q) ∧ (¬ 9 ≤ m → (am_ix m 9 ∧ am_wp X (d + 1) 215 3 [.ref 105, .int x0, .int x1, .int x2, .int (m + 1), u5, u6, u7] [] (am_N (am_up I 137 (Int32.toNatClampNeg m) 0) J) Q)))) : am_wp X (d + 1) 215 3 [.ref 105, .int x0, .int x1, .int x2, .int m, u5, u6, u7] [] (am_N I J) Q := s215_3 (s215_5 (s215_7 (fun h3217 => have k := k.1 h3217; s215_24 (s215_25 rfl (k))) (fun h3217 => have k := k.2 h3217; s215_10 (s215_11 k0_105 p0_105_51 (s215_14 (s215_16 (have b3218 := k.1; have k := k.2; s215_17 k0_137 b3218 (s215_18 rfl (s215_21 (k))))))))))
theorem c3_215_27 {X : am_X} {d : Nat} {I : Nat → Nat → Int32} {J : Nat → Nat → Int64} {Q : Option Value → am_M → Prop} {x0 x1 x2 m : Int32} {u5 : Value} (hu5 : u5.category = 1) {u6 : Value} (hu6 : u6.category = 1) {u7 : Value} (hu7 : u7.category = 1) (k : (((I 105 43) ≤ m → am_wp X (d + 1) 215 149 [.ref 105, .int x0, .int x1, .int x2, .int 0, .int 0, u6, u7] [] (am_N I J) Q) ∧ (¬ (I 105 43) ≤ m → (am_ix m 13824 ∧ ((((m_lay I (I 136 (Int32.toNatClampNeg m))) 105 36) = 0 → (¬ (12 + (v_m_farOf (x0 - ((m_lay I (I 136 (Int32.toNatClampNeg m))) 105 32)) (x1 - ((m_lay I (I 136 (Int32.toNatClampNeg m))) 105 33)) ((m_lay I (I 136 (Int32.toNatClampNeg m))) 105 34))) = 0 ∧ ((((240 * ((m_lay I (I 136 (Int32.toNatClampNeg m))) 105 35)) / (12 + (v_m_farOf (x0 - ((m_lay I (I 136 (Int32.toNatClampNeg m))) 105 32)) (x1 - ((m_lay I (I 136 (Int32.toNatClampNeg m))) 105 33)) ((m_lay I (I 136 (Int32.toNatClampNeg m))) 105 34)))) < x2 → am_wp X (d + 1) 215 27 [.ref 105, .int x0, .int x1, .int x2, .int (m + 1), .int (x0 - ((m_lay I (I 136 (Int32.toNatClampNeg m))) 105 32)), .int (x1 - ((m_lay I (I 136 (Int32.toNatClampNeg m))) 105 33)), .int 0] [] (am_N (am_up (m_lay I (I 136 (Int32.toNatClampNeg m))) 137 8 ((I 137 8) + 1)) J) Q) ∧ (¬ ((240 * ((m_lay I (I 136 (Int32.toNatClampNeg m))) 105 35)) / (12 + (v_m_farOf (x0 - ((m_lay I (I 136 (Int32.toNatClampNeg m))) 105 32)) (x1 - ((m_lay I (I 136 (Int32.toNatClampNeg m))) 105 33)) ((m_lay I (I 136 (Int32.toNatClampNeg m))) 105 34)))) < x2 → (am_ix (((23 * ((x0 - ((m_lay I (I 136 (Int32.toNatClampNeg m))) 105 32)) + 11)) + (x1 - ((m_lay I (I 136 (Int32.toNatClampNeg m))) 105 33))) + 11) 529 ∧ (am_ix (I 138 (Int32.toNatClampNeg (((23 * ((x0 - ((m_lay I (I 136 (Int32.toNatClampNeg m))) 105 32)) + 11)) + (x1 - ((m_lay I (I 136 (Int32.toNatClampNeg m))) 105 33))) + 11))) 9 ∧ (am_ix (I 138 (Int32.toNatClampNeg (((23 * ((x0 - ((m_lay I (I 136 (Int32.toNatClampNeg m))) 105 32)) + 11)) + (x1 - ((m_lay I (I 136 (Int32.toNatClampNeg m))) 105 33))) + 11))) 9 ∧ am_wp X (d + 1) 215 27 [.ref 105, .int x0, .int x1, .int x2, .int (m + 1), .int (x0 - ((m_lay I (I 136 (Int32.toNatClampNeg m))) 105 32)), .int (x1 - ((m_lay I (I 136 (Int32.toNatClampNeg m))) 105 33)), .int 1] [] (am_N (am_up (m_lay I (I 136 (Int32.toNatClampNeg m))) 137 (Int32.toNatClampNeg (I 138 (Int32.toNatClampNeg (((23 * ((x0 - ((m_lay I (I 136 (Int32.toNatClampNeg m))) 105 32)) + 11)) + (x1 - ((m_lay I (I 136 (Int32.toNatClampNeg m))) 105 33))) + 11)))) ((I 137 (Int32.toNatClampNeg (I 138 (Int32.toNatClampNeg (((23 * ((x0 - ((m_lay I (I 136 (Int32.toNatClampNeg m))) 105 32)) + 11)) + (x1 - ((m_lay I (I 136 (Int32.toNatClampNeg m))) 105 33))) + 11))))) + 1)) J) Q))))))) ∧ (¬ ((m_lay I (I 136 (Int32.toNatClampNeg m))) 105 36) = 0 → am_wp X (d + 1) 215 27 [.ref 105, .int x0, .int x1, .int x2, .int (m + 1), .int (x0 - ((m_lay I (I 136 (Int32.toNatClampNeg m))) 105 32)), .int (x1 - ((m_lay I (I 136 (Int32.toNatClampNeg m))) 105 33)), .int 0] [] (am_N (am_up (m_lay I (I 136 (Int32.toNatClampNeg m))) 137 8 ((I 137 8) + 1)) J) Q)))))) : am_wp X (d + 1) 215 27 [.ref 105, .int x0, .int x1, .int x2, .int m, u5, u6, u7] [] (am_N I J) Q := s215_27 (s215_29 (s215_30 k0_105 (s215_33 (fun h3219 => have k := k.1 h3219; s215_143 (s215_144 rfl (s215_146 (s215_147 rfl (k))))) (fun h3219 => have k := k.2 h3219; s215_36 (s215_37 (s215_38 k0_105 p0_105_42 (s215_41 (have b3220 := k.1; have k := k.2; s215_43 k0_136 b3220 (s215_44 k0_105 (Nat.le_of_ble_eq_true rfl) (w_lay (am_aft0 (s215_47 (s215_48 (s215_49 k0_105 (s215_52 (s215_53 rfl (s215_55 (s215_56 (s215_57 k0_105 (s215_60 (s215_61 rfl (s215_63 (s215_64 k0_105 (s215_67 (fun h3221 => have k := k.1 h3221; s215_70 (s215_72 (s215_74 (s215_75 k0_105 (s215_78 (Nat.le_of_ble_eq_true rfl) (w_m_farOf (am_aft (s215_81 (s215_82 k0_105 (s215_85 (Nat.le_of_ble_eq_true rfl) (s164_0 (s164_3 (s164_4 (s164_5 (s164_7 (s164_8 (have b3222 := k.1; have k := k.2; s164_9 b3222 (s164_10 (am_aft (s215_88 (s215_89 (fun h3223 => have k := k.1 h3223; s215_96 (s215_97 rfl (s215_99 (s215_100 k0_105 p0_105_51 (s215_103 (s215_105 (fun _ => s215_130 (s215_132 rfl rfl (s215_133 k0_137 (oi_ix (a := 8) (by decide) (by decide) (by decide)) (s215_134 (s215_135 (s215_136 k0_137 (oi_ix (a := 8) (by decide) (by decide) (by decide)) (s215_137 rfl (s215_140 (k))))))))) (fun h => absurd (show (0 : Int32) = 0 by decide) h))))))) (fun h3223 => have k := k.2 h3223; s215_92 (s215_93 (s215_97 rfl (s215_99 (s215_100 k0_105 p0_105_51 (s215_103 (s215_105 (fun h => absurd h (show ¬ (1 : Int32) = 0 by decide)) (fun _ => s215_108 (s215_109 k0_105 p0_105_55 (s215_112 (s215_114 (s215_116 (s215_118 (s215_119 (s215_120 (s215_122 (s215_123 (s215_125 (have b3226 := k.1; have k := k.2; s215_126 k0_138 b3226 (s215_127 (s215_132 rfl rfl (have b3227 := k.1; have k := k.2; s215_133 k0_137 b3227 (s215_134 (s215_135 (have b3228 := k.1; have k := k.2; s215_136 k0_137 b3228 (s215_137 rfl (s215_140 (k))))))))))))))))))))))))))))))))))))))))))))))))) (fun h3221 => have k := k.2 h3221; s215_96 (s215_97 rfl (s215_99 (s215_100 k0_105 p0_105_51 (s215_103 (s215_105 (fun _ => s215_130 (s215_132 rfl rfl (s215_133 k0_137 (oi_ix (a := 8) (by decide) (by decide) (by decide)) (s215_134 (s215_135 (s215_136 k0_137 (oi_ix (a := 8) (by decide) (by decide) (by decide)) (s215_137 rfl (s215_140 (k))))))))) (fun h => absurd (show (0 : Int32) = 0 by decide) h)))))))))))))))))))))))))))))))
theorem c3_215_149 {X : am_X} {d : Nat} {I : Nat → Nat → Int32} {J : Nat → Nat → Int64} {Q : Option Value → am_M → Prop} {x0 x1 x2 w m : Int32} {u6 : Value} (hu6 : u6.category = 1) {u7 : Value} (hu7 : u7.category = 1) (k : ((9 ≤ m → Q (some (.int w)) (am_N I J)) ∧ (¬ 9 ≤ m → (am_ix m 9 ∧ (((I 137 (Int32.toNatClampNeg m)) ≤ w → am_wp X (d + 1) 215 149 [.ref 105, .int x0, .int x1, .int x2, .int w, .int (m + 1), u6, u7] [] (am_N I J) Q) ∧ (¬ (I 137 (Int32.toNatClampNeg m)) ≤ w → (am_ix m 9 ∧ am_wp X (d + 1) 215 149 [.ref 105, .int x0, .int x1, .int x2, .int (I 137 (Int32.toNatClampNeg m)), .int (m + 1), u6, u7] [] (am_N I J) Q))))))) : am_wp X (d + 1) 215 149 [.ref 105, .int x0, .int x1, .int x2, .int w, .int m, u6, u7] [] (am_N I J) Q := s215_149 (s215_151 (s215_153 (fun h3230 => have k := k.1 h3230; s215_188 (s215_190 (k))) (fun h3230 => have k := k.2 h3230; s215_156 (s215_157 k0_105 p0_105_51 (s215_160 (have b3231 := k.1; have k := k.2; s215_162 k0_137 b3231 (s215_163 (s215_165 (fun h3232 => have k := k.1 h3232; s215_178 (s215_180 rfl (s215_182 rfl (s215_185 (k))))) (fun h3232 => have k := k.2 h3232; s215_168 (s215_169 k0_105 p0_105_51 (s215_172 (have b3233 := k.1; have k := k.2; s215_174 k0_137 b3233 (s215_175 (s215_180 rfl (s215_182 rfl (s215_185 (k)))))))))))))))))
/-! NEXT: the reference -/
def tw (I I' : Nat → Nat → Int32) : Prop := (∀ a k, ¬ a = 138 → I' a k = I a k) ∧ ∀ a b : Nat, a < 23 → b < 23 → I' 138 (23 * a + b) = v_m_wayOf (Int32.ofInt ((a : Int) - 11)) (Int32.ofInt ((b : Int) - 11)) 0
theorem w_214 {X : am_X} {d : Nat} {I : Nat → Nat → Int32} {J : Nat → Nat → Int64} {Q : Option Value → am_M → Prop} (k : ∀ I' : Nat → Nat → Int32, tw I I' → Q none (am_N I' J)) : am_wp X (d + 2) 214 0 [.ref 105, am_uv, am_uv] [] (am_N I J) Q := by
  refine c3_214 ?_
  rw [show (-11 : Int32) = Int32.ofInt (((0 : Nat) : Int) - 11) by decide]
  have t12 : (12 : Int32) = Int32.ofInt 12 := rfl
  have o : ∀ m : Nat, Int32.ofInt ((m : Int) - 11) + 1 = Int32.ofInt (((m + 1 : Nat) : Int) - 11) := by
    intro m
    rw [show (1 : Int32) = Int32.ofInt 1 from rfl, oi_add]
    congr 1
    omega
  refine am_down (N := 23) (P := fun m => ∀ (u2 : Value) (I' : Nat → Nat → Int32), u2.category = 1 → (∀ a k, ¬ a = 138 → I' a k = I a k) → (∀ a b : Nat, a < m → b < 23 → I' 138 (23 * a + b) = v_m_wayOf (Int32.ofInt ((a : Int) - 11)) (Int32.ofInt ((b : Int) - 11)) 0) → am_wp X (d + 2) 214 3 [.ref 105, .int (Int32.ofInt ((m : Int) - 11)), u2] [] (am_N I' J) Q) ?_ ?_ 0 (by omega) am_uv I rfl (fun _ _ _ => rfl) (fun a b h => absurd h (by omega))
  · intro u2 I' h2 hs ht
    exact c3_214_3 h2 ⟨fun _ => k I' ⟨hs, ht⟩, fun q => absurd (by decide) q⟩
  · intro m hm ih u2 I' h2 hs ht
    refine c3_214_3 h2 ⟨fun q => absurd q (by rw [t12, oi_le (by omega) (by omega)]; omega), fun _ => ?_⟩
    rw [show (-11 : Int32) = Int32.ofInt (((0 : Nat) : Int) - 11) by decide]
    refine am_down (N := 23) (P := fun n => ∀ I' : Nat → Nat → Int32, (∀ a k, ¬ a = 138 → I' a k = I a k) → (∀ a b : Nat, (a < m ∧ b < 23) ∨ (a = m ∧ b < n) → I' 138 (23 * a + b) = v_m_wayOf (Int32.ofInt ((a : Int) - 11)) (Int32.ofInt ((b : Int) - 11)) 0) → am_wp X (d + 2) 214 12 [.ref 105, .int (Int32.ofInt ((m : Int) - 11)), .int (Int32.ofInt ((n : Int) - 11))] [] (am_N I' J) Q) ?_ ?_ 0 (by omega) I' hs (fun a b h => ht a b (by omega) (by omega))
    · intro I' hs ht
      refine c3_214_12 ⟨fun _ => ?_, fun q => absurd (by decide) q⟩
      rw [o]
      exact ih _ I' rfl hs (fun a b h1 h2 => ht a b (by omega))
    · intro n hn ih' I' hs ht
      have ei : 23 * (Int32.ofInt ((m : Int) - 11) + 11) + Int32.ofInt ((n : Int) - 11) + 11 = Int32.ofInt ((23 * m + n : Nat) : Int) := by
        rw [show (11 : Int32) = Int32.ofInt 11 from rfl, show (23 : Int32) = Int32.ofInt 23 from rfl, oi_add, oi_mul, oi_add, oi_add]
        congr 1
        omega
      refine c3_214_12 ⟨fun q => absurd q (by rw [t12, oi_le (by omega) (by omega)]; omega), fun _ => ?_⟩
      rw [ei, oi_cln (by omega), o]
      refine ⟨oi_ix (by omega) (by omega) (by omega), ih' _ (fun a j p => by rw [am_upv, if_neg (by omega)]; exact hs a j p) (fun a b h => ?_)⟩
      rw [am_upv]
      by_cases e : a = m ∧ b = n
      · rw [if_pos (by omega), e.1, e.2]
      · rw [if_neg (by omega)]
        exact ht a b (by omega)
/-- the reference has what fits, and the WAYS -/
def rn (I0 I : Nat → Nat → Int32) : Prop := Inv I ∧ I 105 43 = Int32.ofInt (cgn I0 13824 : Int) ∧ (∀ g, g < 13824 → gfn I0 g = true → I 136 (cgn I0 g) = Int32.ofInt (g : Int)) ∧ ∀ a b : Nat, a < 23 → b < 23 → I 138 (23 * a + b) = v_m_wayOf (Int32.ofInt ((a : Int) - 11)) (Int32.ofInt ((b : Int) - 11)) 0
def p215 (I0 I : Nat → Nat → Int32) (x y v : Int32) : Prop := rn I0 I ∧ (∃ a : Nat, a < 12 ∧ x = Int32.ofInt (a : Int)) ∧ (∃ b : Nat, b < 12 ∧ y = Int32.ofInt (b : Int)) ∧ gR v 1 240
def t215 (I I' : Nat → Nat → Int32) : Prop := (∀ a k, ¬ (a = 105 ∧ 32 ≤ k ∧ k ≤ 36) → ¬ a = 137 → I' a k = I a k) ∧ Inv I'
def Ni (gi : Nat → Nat) (x y v : Int32) (w : Nat) : Nat → Nat
  | 0 => 0
  | m + 1 => Ni gi x y v w m + (if kl x y v (gi m) = w then 1 else 0)
theorem Ni_le (gi : Nat → Nat) (x y v : Int32) (w : Nat) : ∀ m, Ni gi x y v w m ≤ m := by
  intro m
  induction m with
  | zero => exact Nat.le_refl 0
  | succ m ih =>
    show Ni gi x y v w m + (if kl x y v (gi m) = w then 1 else 0) ≤ m + 1
    split <;> omega
theorem Ni_Ng {I : Nat → Nat → Int32} {gi : Nat → Nat} (x y v : Int32) (w : Nat) : ∀ M, (∀ g, g < M → gfn I g = true → gi (cgn I g) = g) → Ni gi x y v w (cgn I M) = Ng I x y v w M := by
  intro M
  induction M with
  | zero => intro _; rfl
  | succ M ih =>
    intro h
    have i1 := ih (fun g hg => h g (by omega))
    show Ni gi x y v w (cgn I M + (if gfn I M = true then 1 else 0)) = Ng I x y v w M + (if gfn I M = true ∧ kl x y v M = w then 1 else 0)
    by_cases q : gfn I M = true
    · rw [if_pos q]
      show Ni gi x y v w (cgn I M) + (if kl x y v (gi (cgn I M)) = w then 1 else 0) = _
      rw [i1, h M (by omega) q]
      congr 1
      by_cases e : kl x y v M = w
      · rw [if_pos e, if_pos ⟨q, e⟩]
      · rw [if_neg e, if_neg (fun z => e z.2)]
    · rw [if_neg q, if_neg (fun z => q z.1)]
      exact i1
theorem am_max_if (a b : Int32) : (if b ≤ a then a else b) = am_max a b := by
  unfold am_max
  by_cases h : b ≤ a
  · rw [if_pos h, if_neg (fun q => Int32.not_lt.mpr h q)]
  · rw [if_neg h, if_pos (Int32.not_le.mp h)]
theorem cg_sp (I : Nat → Nat → Int32) {n : Nat} : ∀ M, n < cgn I M → ∃ g, g < M ∧ gfn I g = true ∧ cgn I g = n := by
  intro M
  induction M with
  | zero => intro h; exact absurd h (by show ¬ n < 0; omega)
  | succ M ih =>
    intro h
    by_cases hn : n < cgn I M
    · obtain ⟨g, g1, g2, g3⟩ := ih hn
      exact ⟨g, by omega, g2, g3⟩
    · have h : n < cgn I M + (if gfn I M = true then 1 else 0) := h
      by_cases ht : gfn I M = true
      · rw [if_pos ht] at h
        exact ⟨M, by omega, ht, by omega⟩
      · rw [if_neg ht] at h
        omega
theorem w_215 {X : am_X} {d : Nat} {I0 I : Nat → Nat → Int32} {J : Nat → Nat → Int64} {Q : Option Value → am_M → Prop} {x0 x1 x2 : Int32} (h : p215 I0 I x0 x1 x2) (k : ∀ I' : Nat → Nat → Int32, t215 I I' → Q (some (.int (Rw I0 x0 x1 x2))) (am_N I' J)) : am_wp X (d + 1) 215 0 [.ref 105, .int x0, .int x1, .int x2, am_uv, am_uv, am_uv, am_uv] [] (am_N I J) Q := by
  obtain ⟨⟨hi, h43, h136, h138⟩, ⟨a, a1, ea⟩, ⟨b, b1, eb⟩, hv⟩ := h
  have hx : gR x0 0 11 := ⟨a, by omega, by omega, ea⟩
  have hy : gR x1 0 11 := ⟨b, by omega, by omega, eb⟩
  have lM := cgn_le I0 13824
  obtain ⟨gi, hgi⟩ : ∃ gi : Nat → Nat, gi = fun m => Int32.toNatClampNeg (I 136 m) := ⟨_, rfl⟩
  have at1 : ∀ g, g < 13824 → gfn I0 g = true → gi (cgn I0 g) = g := by
    intro g g1 g2
    rw [hgi]
    show Int32.toNatClampNeg (I 136 (cgn I0 g)) = g
    rw [h136 g g1 g2, oi_cln (by omega)]
  have t9 : (9 : Int32) = Int32.ofInt 9 := rfl
  refine c3_215 ?_
  refine am_down (N := 9) (P := fun m => ∀ (u5 u6 u7 : Value) (I' : Nat → Nat → Int32), u5.category = 1 → u6.category = 1 → u7.category = 1 → t215 I I' → (∀ w, w < m → I' 137 w = 0) → am_wp X (d + 1) 215 3 [.ref 105, .int x0, .int x1, .int x2, .int (Int32.ofInt (m : Int)), u5, u6, u7] [] (am_N I' J) Q) ?_ ?_ 0 (by omega) am_uv am_uv am_uv I rfl rfl rfl ⟨fun _ _ _ _ => rfl, hi⟩ (fun w hw => absurd hw (by omega))
  · intro u5 u6 u7 I' h5 h6 h7 hs hz
    refine c3_215_3 h5 h6 h7 ⟨fun _ => ?_, fun q => absurd (by decide) q⟩
    refine am_down (N := cgn I0 13824) (P := fun m => ∀ (u5 u6 u7 : Value) (I' : Nat → Nat → Int32), u5.category = 1 → u6.category = 1 → u7.category = 1 → t215 I I' → (∀ w, w < 9 → I' 137 w = Int32.ofInt (Ni gi x0 x1 x2 w m : Int)) → am_wp X (d + 1) 215 27 [.ref 105, .int x0, .int x1, .int x2, .int (Int32.ofInt (m : Int)), u5, u6, u7] [] (am_N I' J) Q) ?_ ?_ 0 (by omega) u5 u6 u7 I' h5 h6 h7 hs (fun w hw => hz w hw)
    · intro u5 u6 u7 I' h5 h6 h7 hs hd
      refine c3_215_27 h5 h6 h7 ⟨fun _ => ?_, fun q => absurd (by rw [hs.1 105 43 (by omega) (by omega), h43]; exact Int32.le_refl _) q⟩
      have hd : ∀ w, w < 9 → I' 137 w = Int32.ofInt (Ng I0 x0 x1 x2 w 13824 : Int) := fun w hw => by rw [hd w hw, Ni_Ng x0 x1 x2 w 13824 at1]
      refine am_down (N := 9) (P := fun m => ∀ r : Int32, r = mxD (fun w => Ng I0 x0 x1 x2 w 13824) m → am_wp X (d + 1) 215 149 [.ref 105, .int x0, .int x1, .int x2, .int r, .int (Int32.ofInt (m : Int)), u6, u7] [] (am_N I' J) Q) ?_ ?_ 0 (by omega) 0 rfl
      · intro r hr
        refine c3_215_149 h6 h7 ⟨fun _ => ?_, fun q => absurd (by decide) q⟩
        rw [hr]
        exact k I' hs
      · intro m hm ih r hr
        have ix : am_ix (Int32.ofInt (m : Int)) 9 := oi_ix (by omega) (by omega) (by omega)
        refine c3_215_149 h6 h7 ⟨fun q => absurd q (by rw [t9, oi_le (by omega) (by omega)]; omega), fun _ => ⟨ix, ?_⟩⟩
        rw [oi_cln (by omega), hd m hm, oi_succ]
        have nx : mxD (fun w => Ng I0 x0 x1 x2 w 13824) (m + 1) = if Int32.ofInt (Ng I0 x0 x1 x2 m 13824 : Int) ≤ r then r else Int32.ofInt (Ng I0 x0 x1 x2 m 13824 : Int) := by
          rw [am_max_if, hr]
          rfl
        refine ⟨fun q => ih _ ?_, fun q => ⟨ix, ih _ ?_⟩⟩
        · rw [nx, if_pos q]
        · rw [nx, if_neg q]
    · intro m hm ih u5 u6 u7 I' h5 h6 h7 hs hd
      have ⟨g, g1, g2, g3⟩ : ∃ g, g < 13824 ∧ gfn I0 g = true ∧ cgn I0 g = m := cg_sp I0 13824 hm
      have e136 : I' 136 m = Int32.ofInt (g : Int) := by
        rw [hs.1 136 m (by omega) (by omega), ← g3]
        exact h136 g g1 g2
      have eg : Int32.ofInt (g : Int) = gn (g / 24) (g % 24) := by
        unfold gn
        rw [show 24 * (g / 24) + g % 24 = g by omega]
      obtain ⟨y1, y2, y3, y4, y5⟩ := gn_at (c := g / 24) (i := g % 24) (by omega) (by omega)
      obtain ⟨⟨z1, z2, z3, z4, z5⟩, zr⟩ := lay_at I' (Int32.ofInt (g : Int))
      replace z1 := z1.trans ((congrArg gX eg).trans y1)
      replace z2 := z2.trans ((congrArg gY eg).trans y2)
      replace z3 := z3.trans ((congrArg gZ eg).trans y3)
      replace z4 := z4.trans ((congrArg gS eg).trans y4)
      replace z5 := z5.trans ((congrArg gD eg).trans y5)
      have hgR : gR (Int32.ofInt (g : Int)) 0 13823 := ⟨g, by omega, by omega, rfl⟩
      have gm : gi m = g := by rw [← g3]; exact at1 g g1 g2
      have ix : am_ix (Int32.ofInt (m : Int)) 13824 := oi_ix (by omega) (by omega) (by omega)
      have sc : ∀ (L : Nat → Nat → Int32) (q : Nat) (z : Int32), Inv L → Inv (am_up L 137 q z) := fun L q z hL => hL.sm (sm.rf.up (by unfold Sc; omega))
      have nx : ∀ (q : Nat) (u5 u6 u7 : Value), u5.category = 1 → u6.category = 1 → u7.category = 1 → kl x0 x1 x2 g = q → q < 9 → am_wp X (d + 1) 215 27 [.ref 105, .int x0, .int x1, .int x2, .int (Int32.ofInt ((m + 1 : Nat) : Int)), u5, u6, u7] [] (am_N (am_up (m_lay I' (Int32.ofInt (g : Int))) 137 q (I' 137 q + 1)) J) Q := by
        intro q u5 u6 u7 h5 h6 h7 hq q9
        refine ih u5 u6 u7 _ h5 h6 h7 ⟨fun a j p r => ?_, sc _ _ _ (hs.2.lay hgR)⟩ (fun w hw => ?_)
        · rw [am_upv, if_neg (by omega), zr a j (by omega)]
          exact hs.1 a j p r
        · show _ = Int32.ofInt ((Ni gi x0 x1 x2 w m + (if kl x0 x1 x2 (gi m) = w then 1 else 0) : Nat) : Int)
          rw [am_upv, gm, hq]
          by_cases e : w = q
          · rw [if_pos ⟨rfl, e⟩, if_pos e.symm, ← e, hd w hw, oi_succ]
          · rw [if_neg (by omega), if_neg (fun z => e z.symm), zr 137 w (by omega)]
            exact hd w hw
      refine c3_215_27 h5 h6 h7 ⟨fun q => absurd q (by rw [hs.1 105 43 (by omega) (by omega), h43, oi_le (by omega) (by omega)]; omega), fun _ => ⟨ix, ?_⟩⟩
      rw [oi_cln (by omega), e136, z1, z2, z3, z4, z5, oi_succ]
      refine ⟨fun q => ?_, fun q => nx 8 _ _ _ rfl rfl rfl ?_ (by omega)⟩
      · have q2 : g % 24 % 2 = 0 := by
          have := (oi_eq (b := 0) (by omega) (by omega)).mp q
          omega
        obtain ⟨F, F1, F2, eF⟩ := far11 hx hy (c := g / 24) (by omega)
        have eF' : v_m_farOf (x0 - Int32.ofInt ((g / 24 / 48 : Nat) : Int)) (x1 - Int32.ofInt ((g / 24 / 4 % 12 : Nat) : Int)) (Int32.ofInt ((g / 24 % 4 : Nat) : Int)) = Int32.ofInt F := eF
        rw [eF']
        have d0 : ¬ (12 : Int32) + Int32.ofInt F = 0 := by
          rw [show (12 : Int32) = Int32.ofInt 12 from rfl, oi_add]
          intro z
          have := (oi_eq (b := 0) (by omega) (by omega)).mp z
          omega
        refine ⟨d0, fun z => nx 8 _ _ _ rfl rfl rfl ?_ (by omega), fun z => ?_⟩
        · unfold kl
          rw [eF, if_neg (fun y => y.2 z)]
        · have ei : 23 * (x0 - Int32.ofInt ((g / 24 / 48 : Nat) : Int) + 11) + (x1 - Int32.ofInt ((g / 24 / 4 % 12 : Nat) : Int)) + 11 = Int32.ofInt ((23 * (a + 11 - g / 24 / 48) + (b + 11 - g / 24 / 4 % 12) : Nat) : Int) := by
            rw [ea, eb, show (11 : Int32) = Int32.ofInt 11 from rfl, show (23 : Int32) = Int32.ofInt 23 from rfl, oi_sub, oi_sub, oi_add, oi_mul, oi_add, oi_add]
            congr 1
            omega
          have ew : I' 138 (23 * (a + 11 - g / 24 / 48) + (b + 11 - g / 24 / 4 % 12)) = cwy x0 x1 (g / 24) := by
            rw [hs.1 138 _ (by omega) (by omega), h138 _ _ (by omega) (by omega)]
            have e1 : Int32.ofInt (((a + 11 - g / 24 / 48 : Nat) : Int) - 11) = dX x0 (g / 24) := by
              unfold dX
              rw [ea, oi_sub]
              congr 1
              omega
            have e2 : Int32.ofInt (((b + 11 - g / 24 / 4 % 12 : Nat) : Int) - 11) = dY x1 (g / 24) := by
              unfold dY
              rw [eb, oi_sub]
              congr 1
              omega
            unfold cwy
            rw [← e1, ← e2]
            exact way_eq ⟨_, by omega, by omega, rfl⟩ ⟨_, by omega, by omega, rfl⟩
          obtain ⟨W, W1, W2, eW⟩ := way8 (dX x0 (g / 24)) (dY x1 (g / 24))
          have eW' : cwy x0 x1 (g / 24) = Int32.ofInt W := eW
          have iw : am_ix (cwy x0 x1 (g / 24)) 9 := by
            rw [eW']
            exact oi_ix (by omega) (by omega) (by omega)
          rw [ei, oi_cln (by omega), ew]
          refine ⟨oi_ix (by omega) (by omega) (by omega), iw, iw, nx _ _ _ _ rfl rfl rfl ?_ ?_⟩
          · unfold kl
            rw [eF, if_pos ⟨q2, z⟩]
          · rw [eW', oi_cl (by omega)]
            omega
      · have q2 : ¬ g % 24 % 2 = 0 := fun y => q (by rw [y]; rfl)
        unfold kl
        rw [if_neg (fun y => q2 y.1)]
  · intro m hm ih u5 u6 u7 I' h5 h6 h7 hs hz
    have ix : am_ix (Int32.ofInt (m : Int)) 9 := oi_ix (by omega) (by omega) (by omega)
    refine c3_215_3 h5 h6 h7 ⟨fun q => absurd q (by rw [t9, oi_le (by omega) (by omega)]; omega), fun _ => ⟨ix, ?_⟩⟩
    rw [oi_cln (by omega), oi_succ]
    refine ih u5 u6 u7 _ h5 h6 h7 ⟨fun a j p r => ?_, hs.2.sm (sm.rf.up (by unfold Sc; omega))⟩ (fun w hw => ?_)
    · rw [am_upv, if_neg (by omega)]
      exact hs.1 a j p r
    · rw [am_upv]
      by_cases e : w = m
      · rw [if_pos ⟨rfl, e⟩]
      · rw [if_neg (by omega)]
        exact hz w (by omega)
