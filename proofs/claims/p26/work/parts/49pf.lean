theorem c_189 {X : am_X} {d : Nat} {I : Nat → Nat → Int32} {J : Nat → Nat → Int64} {Q : Option Value → am_M → Prop} {x0 : Int32} (k : am_wp X (d + 2) 189 7 [.ref 105, .int x0, .int 0, am_uv, am_uv, am_uv] [] (am_N (m_lay I x0) J) Q) : am_wp X (d + 2) 189 0 [.ref 105, .int x0, am_uv, am_uv, am_uv, am_uv] [] (am_N I J) Q := s189_0 (s189_1 (s189_2 k0_105 (Nat.le_of_ble_eq_true rfl) (w_lay (am_aft0 (s189_5 (s189_6 rfl (k)))))))
theorem c_189_7 {X : am_X} {d : Nat} {I : Nat → Nat → Int32} {J : Nat → Nat → Int64} {Q : Option Value → am_M → Prop} {x0 m : Int32} {u3 : Value} (hu3 : u3.category = 1) {u4 : Value} (hu4 : u4.category = 1) {u5 : Value} (hu5 : u5.category = 1) (k : (((I 105 2) ≤ m → Q none (am_N I J)) ∧ (¬ (I 105 2) ≤ m → (am_ix m 8 ∧ (am_ix m 8 ∧ (¬ (12 + (v_m_farOf ((I 107 (Int32.toNatClampNeg m)) - (I 105 32)) ((I 108 (Int32.toNatClampNeg m)) - (I 105 33)) (I 105 34))) = 0 ∧ (am_ix m 8 ∧ (am_ix m 8 ∧ (gR (4 * (v_m_farOf ((I 107 (Int32.toNatClampNeg m)) - (I 105 32)) ((I 108 (Int32.toNatClampNeg m)) - (I 105 33)) (I 105 34))) 0 1300 ∧ (am_ix m 8 ∧ am_wp X (d + 2) 189 7 [.ref 105, .int x0, .int (m + 1), .int ((I 107 (Int32.toNatClampNeg m)) - (I 105 32)), .int ((I 108 (Int32.toNatClampNeg m)) - (I 105 33)), .int (v_m_farOf ((I 107 (Int32.toNatClampNeg m)) - (I 105 32)) ((I 108 (Int32.toNatClampNeg m)) - (I 105 33)) (I 105 34))] [] (am_N (am_up (am_up (am_up I 133 (Int32.toNatClampNeg m) ((240 * (I 105 35)) / (12 + (v_m_farOf ((I 107 (Int32.toNatClampNeg m)) - (I 105 32)) ((I 108 (Int32.toNatClampNeg m)) - (I 105 33)) (I 105 34))))) 134 (Int32.toNatClampNeg m) (v_m_wayOf ((I 107 (Int32.toNatClampNeg m)) - (I 105 32)) ((I 108 (Int32.toNatClampNeg m)) - (I 105 33)) (I 105 36))) 135 (Int32.toNatClampNeg m) (v_rt (4 * (v_m_farOf ((I 107 (Int32.toNatClampNeg m)) - (I 105 32)) ((I 108 (Int32.toNatClampNeg m)) - (I 105 33)) (I 105 34))))) J) Q)))))))))) : am_wp X (d + 2) 189 7 [.ref 105, .int x0, .int m, u3, u4, u5] [] (am_N I J) Q := s189_7 (s189_8 (s189_9 k0_105 (s189_12 (fun h3040 => have k := k.1 h3040; s189_102 (k)) (fun h3040 => have k := k.2 h3040; s189_15 (s189_16 k0_105 p0_105_4 (s189_19 (have b3041 := k.1; have k := k.2; s189_20 k0_107 b3041 (s189_21 (s189_22 k0_105 (s189_25 (s189_26 rfl (s189_27 (s189_28 k0_105 p0_105_5 (s189_31 (have b3042 := k.1; have k := k.2; s189_32 k0_108 b3042 (s189_33 (s189_34 k0_105 (s189_37 (s189_38 rfl (s189_40 (s189_41 (s189_43 (s189_44 k0_105 (s189_47 (Nat.le_of_ble_eq_true rfl) (w_m_farOf (am_aft (s189_50 rfl (s189_52 (s189_53 k0_105 p0_105_37 (s189_56 (s189_57 (s189_59 (s189_60 k0_105 (s189_63 (Nat.le_of_ble_eq_true rfl) (s164_0 (s164_3 (s164_4 (s164_5 (s164_7 (s164_8 (have b3043 := k.1; have k := k.2; s164_9 b3043 (s164_10 (am_aft (have b3044 := k.1; have k := k.2; s189_66 k0_133 b3044 (s189_67 (s189_68 k0_105 p0_105_38 (s189_71 (s189_72 (s189_73 (s189_75 (s189_76 k0_105 (s189_79 (Nat.le_of_ble_eq_true rfl) (w_m_wayOf (am_aft (have b3045 := k.1; have k := k.2; s189_82 k0_134 b3045 (s189_83 (s189_84 k0_105 p0_105_39 (s189_87 (s189_88 (s189_89 (s189_91 (s189_92 (Nat.le_of_ble_eq_true rfl) (w_162 k.1 (have k := k.2; am_aft (have b3046 := k.1; have k := k.2; s189_95 k0_135 b3046 (s189_96 rfl (s189_99 (k))))))))))))))))))))))))))))))))))))))))))))))))))))))))))))))))))))
theorem c_191 {X : am_X} {d : Nat} {I : Nat → Nat → Int32} {J : Nat → Nat → Int64} {Q : Option Value → am_M → Prop} {x0 : Int32} (k : (am_ix x0 40 ∧ (am_ix x0 40 ∧ (am_ix x0 40 ∧ (((I 128 (Int32.toNatClampNeg x0)) = 0 → (am_ix (I 129 (Int32.toNatClampNeg x0)) 8 ∧ (((I 134 (Int32.toNatClampNeg (I 129 (Int32.toNatClampNeg x0)))) = 8 → (((-1) = (I 131 (Int32.toNatClampNeg x0)) → Q (some (.int 1)) (am_N I J)) ∧ (¬ (-1) = (I 131 (Int32.toNatClampNeg x0)) → Q (some (.int 0)) (am_N I J)))) ∧ (¬ (I 134 (Int32.toNatClampNeg (I 129 (Int32.toNatClampNeg x0)))) = 8 → (am_ix (I 129 (Int32.toNatClampNeg x0)) 8 ∧ (am_ix (I 129 (Int32.toNatClampNeg x0)) 8 ∧ (((I 133 (Int32.toNatClampNeg (I 129 (Int32.toNatClampNeg x0)))) < (I 109 (Int32.toNatClampNeg (I 129 (Int32.toNatClampNeg x0)))) → (((-1) = (I 131 (Int32.toNatClampNeg x0)) → Q (some (.int 1)) (am_N I J)) ∧ (¬ (-1) = (I 131 (Int32.toNatClampNeg x0)) → Q (some (.int 0)) (am_N I J)))) ∧ (¬ (I 133 (Int32.toNatClampNeg (I 129 (Int32.toNatClampNeg x0)))) < (I 109 (Int32.toNatClampNeg (I 129 (Int32.toNatClampNeg x0)))) → (am_ix (I 129 (Int32.toNatClampNeg x0)) 8 ∧ (((I 134 (Int32.toNatClampNeg (I 129 (Int32.toNatClampNeg x0)))) = (I 131 (Int32.toNatClampNeg x0)) → Q (some (.int 1)) (am_N I J)) ∧ (¬ (I 134 (Int32.toNatClampNeg (I 129 (Int32.toNatClampNeg x0)))) = (I 131 (Int32.toNatClampNeg x0)) → Q (some (.int 0)) (am_N I J)))))))))))) ∧ ((I 128 (Int32.toNatClampNeg x0)) = 1 → (am_ix x0 40 ∧ (am_ix (I 129 (Int32.toNatClampNeg x0)) 8 ∧ (am_ix (I 129 (Int32.toNatClampNeg x0)) 8 ∧ (am_ix ((6 * (I 129 (Int32.toNatClampNeg x0))) + (I 130 (Int32.toNatClampNeg x0))) 48 ∧ (((I 131 (Int32.toNatClampNeg x0)) = (-2) → (((v_fal I (Int32.toNatClampNeg ((6 * (I 129 (Int32.toNatClampNeg x0))) + (I 130 (Int32.toNatClampNeg x0)))) (I 133 (Int32.toNatClampNeg (I 129 (Int32.toNatClampNeg x0)))) (I 134 (Int32.toNatClampNeg (I 129 (Int32.toNatClampNeg x0))))) = (-9) → Q (some (.int 1)) (am_N I J)) ∧ (¬ (v_fal I (Int32.toNatClampNeg ((6 * (I 129 (Int32.toNatClampNeg x0))) + (I 130 (Int32.toNatClampNeg x0)))) (I 133 (Int32.toNatClampNeg (I 129 (Int32.toNatClampNeg x0)))) (I 134 (Int32.toNatClampNeg (I 129 (Int32.toNatClampNeg x0))))) = (-9) → Q (some (.int 0)) (am_N I J)))) ∧ (¬ (I 131 (Int32.toNatClampNeg x0)) = (-2) → (((I 131 (Int32.toNatClampNeg x0)) = (-1) → (((v_fal I (Int32.toNatClampNeg ((6 * (I 129 (Int32.toNatClampNeg x0))) + (I 130 (Int32.toNatClampNeg x0)))) (I 133 (Int32.toNatClampNeg (I 129 (Int32.toNatClampNeg x0)))) (I 134 (Int32.toNatClampNeg (I 129 (Int32.toNatClampNeg x0))))) = (-9) → Q (some (.int 0)) (am_N I J)) ∧ (¬ (v_fal I (Int32.toNatClampNeg ((6 * (I 129 (Int32.toNatClampNeg x0))) + (I 130 (Int32.toNatClampNeg x0)))) (I 133 (Int32.toNatClampNeg (I 129 (Int32.toNatClampNeg x0)))) (I 134 (Int32.toNatClampNeg (I 129 (Int32.toNatClampNeg x0))))) = (-9) → Q (some (.int 1)) (am_N I J)))) ∧ (¬ (I 131 (Int32.toNatClampNeg x0)) = (-1) → (((v_fal I (Int32.toNatClampNeg ((6 * (I 129 (Int32.toNatClampNeg x0))) + (I 130 (Int32.toNatClampNeg x0)))) (I 133 (Int32.toNatClampNeg (I 129 (Int32.toNatClampNeg x0)))) (I 134 (Int32.toNatClampNeg (I 129 (Int32.toNatClampNeg x0))))) = (I 131 (Int32.toNatClampNeg x0)) → Q (some (.int 1)) (am_N I J)) ∧ (¬ (v_fal I (Int32.toNatClampNeg ((6 * (I 129 (Int32.toNatClampNeg x0))) + (I 130 (Int32.toNatClampNeg x0)))) (I 133 (Int32.toNatClampNeg (I 129 (Int32.toNatClampNeg x0)))) (I 134 (Int32.toNatClampNeg (I 129 (Int32.toNatClampNeg x0))))) = (I 131 (Int32.toNatClampNeg x0)) → Q (some (.int 0)) (am_N I J)))))))))))) ∧ ((I 128 (Int32.toNatClampNeg x0)) = 2 → (am_ix (I 129 (Int32.toNatClampNeg x0)) 8 ∧ (am_ix (I 129 (Int32.toNatClampNeg x0)) 8 ∧ (((I 133 (Int32.toNatClampNeg (I 129 (Int32.toNatClampNeg x0)))) < (I 110 (Int32.toNatClampNeg (I 129 (Int32.toNatClampNeg x0)))) → Q (some (.int 0)) (am_N I J)) ∧ (¬ (I 133 (Int32.toNatClampNeg (I 129 (Int32.toNatClampNeg x0)))) < (I 110 (Int32.toNatClampNeg (I 129 (Int32.toNatClampNeg x0)))) → Q (some (.int 1)) (am_N I J)))))) ∧ ((I 128 (Int32.toNatClampNeg x0)) = 3 → (am_ix (I 129 (Int32.toNatClampNeg x0)) 8 ∧ (((I 133 (Int32.toNatClampNeg (I 129 (Int32.toNatClampNeg x0)))) < (I 131 (Int32.toNatClampNeg x0)) → Q (some (.int 0)) (am_N I J)) ∧ (¬ (I 133 (Int32.toNatClampNeg (I 129 (Int32.toNatClampNeg x0)))) < (I 131 (Int32.toNatClampNeg x0)) → Q (some (.int 1)) (am_N I J))))) ∧ (¬ (I 128 (Int32.toNatClampNeg x0)) = 0 → ¬ (I 128 (Int32.toNatClampNeg x0)) = 1 → ¬ (I 128 (Int32.toNatClampNeg x0)) = 2 → ¬ (I 128 (Int32.toNatClampNeg x0)) = 3 → (am_ix (I 129 (Int32.toNatClampNeg x0)) 8 ∧ (((I 131 (Int32.toNatClampNeg x0)) ≤ (I 133 (Int32.toNatClampNeg (I 129 (Int32.toNatClampNeg x0)))) → Q (some (.int 0)) (am_N I J)) ∧ (¬ (I 131 (Int32.toNatClampNeg x0)) ≤ (I 133 (Int32.toNatClampNeg (I 129 (Int32.toNatClampNeg x0)))) → Q (some (.int 1)) (am_N I J)))))))))) : am_wp X (d + 2) 191 0 [.ref 105, .int x0, am_uv, am_uv, am_uv] [] (am_N I J) Q := s191_0 (s191_1 k0_105 p0_105_28 (s191_4 (have b3047 := k.1; have k := k.2; s191_5 k0_129 b3047 (s191_6 rfl (s191_7 (s191_8 k0_105 p0_105_30 (s191_11 (have b3048 := k.1; have k := k.2; s191_12 k0_131 b3048 (s191_13 rfl (s191_14 (s191_15 k0_105 p0_105_27 (s191_18 (have b3049 := k.1; have k := k.2; s191_19 k0_128 b3049 (s191_20 (fun h3050 => have k := k.1 h3050; s191_52 (s191_53 (s191_54 k0_105 (Nat.le_of_ble_eq_true rfl) (s190_0 (s190_1 k0_105 p0_105_38 (s190_4 (have b3051 := k.1; have k := k.2; s190_5 k0_134 b3051 (s190_6 (s190_8 (fun h3052 => have k := k.1 h3052; s190_35 (s190_36 (am_aft (s191_57 (s191_58 (fun h3053 => have k := k.1 h3053; s191_61 (s191_62 (s191_66 (Or.inr rfl) (k)))) (fun h3053 => have k := k.2 h3053; s191_65 (s191_66 (Or.inl rfl) (k)))))))) (fun h3052 => have k := k.2 h3052; s190_11 (s190_12 k0_105 p0_105_37 (s190_15 (have b3054 := k.1; have k := k.2; s190_16 k0_133 b3054 (s190_17 (s190_18 k0_105 p0_105_6 (s190_21 (have b3055 := k.1; have k := k.2; s190_22 k0_109 b3055 (s190_23 (fun h3056 => have k := k.1 h3056; s190_35 (s190_36 (am_aft (s191_57 (s191_58 (fun h3057 => have k := k.1 h3057; s191_61 (s191_62 (s191_66 (Or.inr rfl) (k)))) (fun h3057 => have k := k.2 h3057; s191_65 (s191_66 (Or.inl rfl) (k)))))))) (fun h3056 => have k := k.2 h3056; s190_26 (s190_27 k0_105 p0_105_38 (s190_30 (have b3058 := k.1; have k := k.2; s190_31 k0_134 b3058 (s190_32 (s190_36 (am_aft (s191_57 (s191_58 (fun h3059 => have k := k.1 h3059; s191_61 (s191_62 (s191_66 (Or.inr rfl) (k)))) (fun h3059 => have k := k.2 h3059; s191_65 (s191_66 (Or.inl rfl) (k)))))))))))))))))))))))))))))) (fun h3060 => have k := k.2.1 h3060; s191_67 (s191_68 (s191_70 (s191_71 (s191_72 (s191_73 k0_105 p0_105_29 (s191_76 (have b3061 := k.1; have k := k.2; s191_77 k0_130 b3061 (s191_78 (s191_79 (s191_80 k0_105 p0_105_37 (s191_83 (have b3062 := k.1; have k := k.2; s191_84 k0_133 b3062 (s191_85 (s191_86 k0_105 p0_105_38 (s191_89 (have b3063 := k.1; have k := k.2; s191_90 k0_134 b3063 (s191_91 k0_105 (Nat.le_of_ble_eq_true rfl) (w_167 k.1 (have k := k.2; am_aft (s191_94 rfl (s191_96 (s191_97 (s191_99 (fun h3064 => have k := k.1 h3064; s191_102 (s191_104 (s191_106 (fun h3065 => have k := k.1 h3065; s191_109 (s191_110 (s191_148 (Or.inr rfl) (k)))) (fun h3065 => have k := k.2 h3065; s191_113 (s191_114 (s191_148 (Or.inl rfl) (k))))))) (fun h3064 => have k := k.2 h3064; s191_117 (s191_118 (s191_119 (fun h3066 => have k := k.1 h3066; s191_122 (s191_124 (s191_126 (fun h3067 => have k := k.1 h3067; s191_133 (s191_134 (s191_148 (Or.inl rfl) (k)))) (fun h3067 => have k := k.2 h3067; s191_129 (s191_130 (s191_148 (Or.inr rfl) (k))))))) (fun h3066 => have k := k.2 h3066; s191_137 (s191_139 (s191_140 (fun h3068 => have k := k.1 h3068; s191_143 (s191_144 (s191_148 (Or.inr rfl) (k)))) (fun h3068 => have k := k.2 h3068; s191_147 (s191_148 (Or.inl rfl) (k))))))))))))))))))))))))))))))))) (fun h3069 => have k := k.2.2.1 h3069; s191_149 (s191_150 k0_105 p0_105_37 (s191_153 (have b3070 := k.1; have k := k.2; s191_154 k0_133 b3070 (s191_155 (s191_156 k0_105 p0_105_7 (s191_159 (have b3071 := k.1; have k := k.2; s191_160 k0_110 b3071 (s191_161 (fun h3072 => have k := k.1 h3072; s191_168 (s191_169 (Or.inl rfl) (k))) (fun h3072 => have k := k.2 h3072; s191_164 (s191_165 (s191_169 (Or.inr rfl) (k))))))))))))) (fun h3073 => have k := k.2.2.2.1 h3073; s191_170 (s191_171 k0_105 p0_105_37 (s191_174 (have b3074 := k.1; have k := k.2; s191_175 k0_133 b3074 (s191_176 (s191_177 (fun h3075 => have k := k.1 h3075; s191_184 (s191_185 (Or.inl rfl) (k))) (fun h3075 => have k := k.2 h3075; s191_180 (s191_181 (s191_185 (Or.inr rfl) (k)))))))))) (fun h3076 h3077 h3078 h3079 => have k := k.2.2.2.2 h3076 h3077 h3078 h3079; s191_186 (s191_187 k0_105 p0_105_37 (s191_190 (have b3080 := k.1; have k := k.2; s191_191 k0_133 b3080 (s191_192 (s191_193 (fun h3081 => have k := k.1 h3081; s191_200 (s191_201 (Or.inl rfl) (k))) (fun h3081 => have k := k.2 h3081; s191_196 (s191_197 (s191_201 (Or.inr rfl) (k))))))))))))))))))))))))
theorem c_192 {X : am_X} {d : Nat} {I : Nat → Nat → Int32} {J : Nat → Nat → Int64} {Q : Option Value → am_M → Prop} {x0 : Int32} (k : (am_ix x0 40 ∧ (am_ix x0 40 ∧ (am_ix (I 129 (Int32.toNatClampNeg x0)) 8 ∧ (am_ix (I 129 (Int32.toNatClampNeg x0)) 8 ∧ (am_ix (I 129 (Int32.toNatClampNeg x0)) 8 ∧ Q (some (.int ((((I 131 (Int32.toNatClampNeg x0)) - (I 111 (Int32.toNatClampNeg (I 129 (Int32.toNatClampNeg x0))))) - (I 112 (Int32.toNatClampNeg (I 129 (Int32.toNatClampNeg x0))))) - (I 135 (Int32.toNatClampNeg (I 129 (Int32.toNatClampNeg x0))))))) (am_N I J))))))) : am_wp X d 192 0 [.ref 105, .int x0, am_uv] [] (am_N I J) Q := s192_0 (s192_1 k0_105 p0_105_28 (s192_4 (have b3082 := k.1; have k := k.2; s192_5 k0_129 b3082 (s192_6 rfl (s192_7 (s192_8 k0_105 p0_105_30 (s192_11 (have b3083 := k.1; have k := k.2; s192_12 k0_131 b3083 (s192_13 (s192_14 k0_105 p0_105_8 (s192_17 (have b3084 := k.1; have k := k.2; s192_18 k0_111 b3084 (s192_19 (s192_20 (s192_21 k0_105 p0_105_9 (s192_24 (have b3085 := k.1; have k := k.2; s192_25 k0_112 b3085 (s192_26 (s192_27 (s192_28 k0_105 p0_105_39 (s192_31 (have b3086 := k.1; have k := k.2; s192_32 k0_135 b3086 (s192_33 (s192_34 (k)))))))))))))))))))))))))
theorem c_193 {X : am_X} {d : Nat} {I : Nat → Nat → Int32} {J : Nat → Nat → Int64} {Q : Option Value → am_M → Prop} {x0 : Int32} (k : (am_ix x0 40 ∧ (am_ix x0 40 ∧ (am_ix (I 129 (Int32.toNatClampNeg x0)) 8 ∧ (am_ix (I 129 (Int32.toNatClampNeg x0)) 8 ∧ (am_ix (I 129 (Int32.toNatClampNeg x0)) 8 ∧ Q (some (.int ((((I 131 (Int32.toNatClampNeg x0)) - (I 111 (Int32.toNatClampNeg (I 129 (Int32.toNatClampNeg x0))))) + (I 112 (Int32.toNatClampNeg (I 129 (Int32.toNatClampNeg x0))))) - (I 135 (Int32.toNatClampNeg (I 129 (Int32.toNatClampNeg x0))))))) (am_N I J))))))) : am_wp X d 193 0 [.ref 105, .int x0, am_uv] [] (am_N I J) Q := s193_0 (s193_1 k0_105 p0_105_28 (s193_4 (have b3087 := k.1; have k := k.2; s193_5 k0_129 b3087 (s193_6 rfl (s193_7 (s193_8 k0_105 p0_105_30 (s193_11 (have b3088 := k.1; have k := k.2; s193_12 k0_131 b3088 (s193_13 (s193_14 k0_105 p0_105_8 (s193_17 (have b3089 := k.1; have k := k.2; s193_18 k0_111 b3089 (s193_19 (s193_20 (s193_21 k0_105 p0_105_9 (s193_24 (have b3090 := k.1; have k := k.2; s193_25 k0_112 b3090 (s193_26 (s193_27 (s193_28 k0_105 p0_105_39 (s193_31 (have b3091 := k.1; have k := k.2; s193_32 k0_135 b3091 (s193_33 (s193_34 (k)))))))))))))))))))))))))
/-! THE REFERENCE: a guess looked at -/
def bz (b : Bool) : Int32 := if b = true then 1 else 0
def lo (I I' : Nat → Nat → Int32) : Prop := ∀ a k, ¬ (133 ≤ a ∧ a ≤ 135) → I' a k = I a k
def l_far (L : Nat → Nat → Int32) (h : Nat) : Int32 := v_m_farOf (L 107 h - L 105 32) (L 108 h - L 105 33) (L 105 34)
def l_way (L : Nat → Nat → Int32) (h : Nat) : Int32 := v_m_wayOf (L 107 h - L 105 32) (L 108 h - L 105 33) (L 105 36)
def Lh (L I' : Nat → Nat → Int32) (m : Nat) : Prop := ∀ h, h < m → I' 133 h = (240 * L 105 35) / (12 + l_far L h) ∧ I' 134 h = l_way L h ∧ I' 135 h = v_rt (4 * l_far L h)
def hk (I : Nat → Nat → Int32) : Nat := Int32.toNatClampNeg (I 105 2)
theorem Inv.hk8 {I : Nat → Nat → Int32} (h : Inv I) : I 105 2 = Int32.ofInt (hk I : Int) ∧ hk I ≤ 8 := by
  have g := h.1.1
  rw [← h.1.2] at g
  obtain ⟨e, l⟩ := g.nat (by decide)
  exact ⟨e, by unfold hk; omega⟩
def lk (I I' : Nat → Nat → Int32) (g : Int32) : Prop := lo (m_lay I g) I' ∧ Lh (m_lay I g) I' (hk I)
theorem lo.sm {I I' : Nat → Nat → Int32} (h : lo I I') : sm I I' := fun a k q => h a k (fun p => q (by unfold Sc; omega))
theorem w_189 {X : am_X} {d : Nat} {I : Nat → Nat → Int32} {J : Nat → Nat → Int64} {Q : Option Value → am_M → Prop} {x0 : Int32} (hI : Inv I) (hg : gR x0 0 13823) (k : ∀ I' : Nat → Nat → Int32, lk I I' x0 → Q none (am_N I' J)) : am_wp X (d + 2) 189 0 [.ref 105, .int x0, am_uv, am_uv, am_uv, am_uv] [] (am_N I J) Q := by
  have hL : Inv (m_lay I x0) := hI.lay hg
  have e2 : m_lay I x0 105 2 = I 105 2 := by
    unfold m_lay
    rw [am_upv, if_neg (by omega), am_upv, if_neg (by omega), am_upv, if_neg (by omega), am_upv, if_neg (by omega), am_upv, if_neg (by omega)]
  obtain ⟨en, ln⟩ := hI.hk8
  rw [← e2] at en
  refine c_189 ?_
  unfold lk at k
  revert k hL en
  generalize m_lay I x0 = L
  intro k hL en
  refine am_down (N := hk I) (P := fun m => ∀ (I' : Nat → Nat → Int32) (u3 u4 u5 : Value), u3.category = 1 → u4.category = 1 → u5.category = 1 → lo L I' → Lh L I' m → am_wp X (d + 2) 189 7 [.ref 105, .int x0, .int (Int32.ofInt (m : Int)), u3, u4, u5] [] (am_N I' J) Q) ?_ ?_ 0 (by omega) L am_uv am_uv am_uv rfl rfl rfl (fun _ _ _ => rfl) (fun h hh => absurd hh (by omega))
  · intro I' u3 u4 u5 h3 h4 h5 hs hW
    exact c_189_7 h3 h4 h5 ⟨fun _ => k I' ⟨hs, hW⟩, fun q => absurd (by rw [hs 105 2 (by omega), en]; exact Int32.le_refl _) q⟩
  · intro m hm ih I' u3 u4 u5 h3 h4 h5 hs hW
    have ix : am_ix (Int32.ofInt (m : Int)) 8 := oi_ix (by omega) (by omega) (by omega)
    have hI' : Inv I' := hL.sm hs.sm
    have fr := hI'.far ix
    refine c_189_7 h3 h4 h5 ⟨fun q => absurd q (by rw [hs 105 2 (by omega), en, oi_le (by omega) (by omega)]; omega), fun _ => ⟨ix, ix, divR fr, ix, ix, rootR fr, ix, ?_⟩⟩
    rw [oi_cln (by omega), oi_succ, hs 107 m (by omega), hs 108 m (by omega), hs 105 32 (by omega), hs 105 33 (by omega), hs 105 34 (by omega), hs 105 35 (by omega), hs 105 36 (by omega)]
    refine ih _ _ _ _ rfl rfl rfl (fun a j q => ?_) (fun h hh => ?_)
    · rw [am_upv, if_neg (by omega), am_upv, if_neg (by omega), am_upv, if_neg (by omega)]
      exact hs a j q
    · by_cases e : h = m
      · subst e
        refine ⟨?_, ?_, ?_⟩
        · rw [am_upv, if_neg (by omega), am_upv, if_neg (by omega), am_upv, if_pos (by omega)]
          rfl
        · rw [am_upv, if_neg (by omega), am_upv, if_pos (by omega)]
          rfl
        · rw [am_upv, if_pos (by omega)]
          rfl
      · obtain ⟨g1, g2, g3⟩ := hW h (by omega)
        refine ⟨?_, ?_, ?_⟩
        · rw [am_upv, if_neg (by omega), am_upv, if_neg (by omega), am_upv, if_neg (by omega)]
          exact g1
        · rw [am_upv, if_neg (by omega), am_upv, if_neg (by omega), am_upv, if_neg (by omega)]
          exact g2
        · rw [am_upv, if_neg (by omega), am_upv, if_neg (by omega), am_upv, if_neg (by omega)]
          exact g3
def rr_h (I : Nat → Nat → Int32) (r : Nat) : Nat := Int32.toNatClampNeg (I 129 r)
def rr_p (I : Nat → Nat → Int32) (r : Nat) : Nat := Int32.toNatClampNeg ((6 * I 129 r) + I 130 r)
def rr_is (I : Nat → Nat → Int32) (r : Nat) : Bool := r_so (I 128 r) (I 131 r) (I 133 (rr_h I r)) (I 134 (rr_h I r)) (I 109 (rr_h I r)) (I 110 (rr_h I r)) (I 115 (rr_p I r)) (I 116 (rr_p I r))
def p191 (I : Nat → Nat → Int32) (r : Nat) : Prop := am_ix (I 129 r) 8 ∧ (I 128 r = 1 → am_ix ((6 * I 129 r) + I 130 r) 48)
theorem Inv.p191 {I : Nat → Nat → Int32} (h : Inv I) {x : Int32} (hx : am_ix x 40) : p191 I (Int32.toNatClampNeg x) := ⟨h.ixMH (am_ix_lt hx), fun q => h.ixFall hx q⟩
theorem w_191 {X : am_X} {d : Nat} {I : Nat → Nat → Int32} {J : Nat → Nat → Int64} {Q : Option Value → am_M → Prop} {x0 : Int32} (hx : am_ix x0 40) (hp : p191 I (Int32.toNatClampNeg x0)) (k : Q (some (.int (bz (rr_is I (Int32.toNatClampNeg x0))))) (am_N I J)) : am_wp X (d + 2) 191 0 [.ref 105, .int x0, am_uv, am_uv, am_uv] [] (am_N I J) Q := by
  obtain ⟨hh, hf⟩ := hp
  unfold rr_is r_so rr_h rr_p at k
  refine c_191 ⟨hx, hx, hx, fun h => ⟨hh, fun q => ⟨fun z => ?_, fun z => ?_⟩, fun q => ⟨hh, hh, fun w => ⟨fun z => ?_, fun z => ?_⟩, fun w => ⟨hh, fun z => ?_, fun z => ?_⟩⟩⟩, fun h => ⟨hx, hh, hh, hf h, fun q => ⟨fun z => ?_, fun z => ?_⟩, fun q => ⟨fun w => ⟨fun z => ?_, fun z => ?_⟩, fun w => ⟨fun z => ?_, fun z => ?_⟩⟩⟩, fun h => ⟨hh, hh, fun q => ?_, fun q => ?_⟩, fun h => ⟨hh, fun q => ?_, fun q => ?_⟩, fun h0 h1 h2 h3 => ⟨hh, fun q => ?_, fun q => ?_⟩⟩
  · rw [if_pos h] at k
    unfold r_drop at k
    rw [if_pos q, decide_eq_true z] at k
    exact k
  · rw [if_pos h] at k
    unfold r_drop at k
    rw [if_pos q, decide_eq_false z] at k
    exact k
  · rw [if_pos h] at k
    unfold r_drop at k
    rw [if_neg q, if_pos w, decide_eq_true z] at k
    exact k
  · rw [if_pos h] at k
    unfold r_drop at k
    rw [if_neg q, if_pos w, decide_eq_false z] at k
    exact k
  · rw [if_pos h] at k
    unfold r_drop at k
    rw [if_neg q, if_neg w, decide_eq_true z] at k
    exact k
  · rw [if_pos h] at k
    unfold r_drop at k
    rw [if_neg q, if_neg w, decide_eq_false z] at k
    exact k
  · rw [if_neg (by rw [h]; decide), if_pos h, if_pos q, decide_eq_true (show r_fall _ _ _ _ = -9 from z)] at k
    exact k
  · rw [if_neg (by rw [h]; decide), if_pos h, if_pos q, decide_eq_false (show ¬ r_fall _ _ _ _ = -9 from z)] at k
    exact k
  · rw [if_neg (by rw [h]; decide), if_pos h, if_neg q, if_pos w, decide_eq_true (show r_fall _ _ _ _ = -9 from z)] at k
    exact k
  · rw [if_neg (by rw [h]; decide), if_pos h, if_neg q, if_pos w, decide_eq_false (show ¬ r_fall _ _ _ _ = -9 from z)] at k
    exact k
  · rw [if_neg (by rw [h]; decide), if_pos h, if_neg q, if_neg w, decide_eq_true (show r_fall _ _ _ _ = _ from z)] at k
    exact k
  · rw [if_neg (by rw [h]; decide), if_pos h, if_neg q, if_neg w, decide_eq_false (show ¬ r_fall _ _ _ _ = _ from z)] at k
    exact k
  · rw [if_neg (by rw [h]; decide), if_neg (by rw [h]; decide), if_pos h, decide_eq_false (Int32.not_le.mpr q)] at k
    exact k
  · rw [if_neg (by rw [h]; decide), if_neg (by rw [h]; decide), if_pos h, decide_eq_true (Int32.not_lt.mp q)] at k
    exact k
  · rw [if_neg (by rw [h]; decide), if_neg (by rw [h]; decide), if_neg (by rw [h]; decide), if_pos h, decide_eq_false (Int32.not_le.mpr q)] at k
    exact k
  · rw [if_neg (by rw [h]; decide), if_neg (by rw [h]; decide), if_neg (by rw [h]; decide), if_pos h, decide_eq_true (Int32.not_lt.mp q)] at k
    exact k
  · rw [if_neg h0, if_neg h1, if_neg h2, if_neg h3, decide_eq_false (Int32.not_lt.mpr q)] at k
    exact k
  · rw [if_neg h0, if_neg h1, if_neg h2, if_neg h3, decide_eq_true (Int32.not_le.mp q)] at k
    exact k
def rr_fr (I : Nat → Nat → Int32) (r : Nat) : Int32 := ((I 131 r - I 111 (rr_h I r)) - I 112 (rr_h I r)) - I 135 (rr_h I r)
def rr_tl (I : Nat → Nat → Int32) (r : Nat) : Int32 := ((I 131 r - I 111 (rr_h I r)) + I 112 (rr_h I r)) - I 135 (rr_h I r)
theorem w_192 {X : am_X} {d : Nat} {I : Nat → Nat → Int32} {J : Nat → Nat → Int64} {Q : Option Value → am_M → Prop} {x0 : Int32} (hx : am_ix x0 40) (hh : am_ix (I 129 (Int32.toNatClampNeg x0)) 8) (k : Q (some (.int (rr_fr I (Int32.toNatClampNeg x0)))) (am_N I J)) : am_wp X d 192 0 [.ref 105, .int x0, am_uv] [] (am_N I J) Q := c_192 ⟨hx, hx, hh, hh, hh, k⟩
theorem w_193 {X : am_X} {d : Nat} {I : Nat → Nat → Int32} {J : Nat → Nat → Int64} {Q : Option Value → am_M → Prop} {x0 : Int32} (hx : am_ix x0 40) (hh : am_ix (I 129 (Int32.toNatClampNeg x0)) 8) (k : Q (some (.int (rr_tl I (Int32.toNatClampNeg x0)))) (am_N I J)) : am_wp X d 193 0 [.ref 105, .int x0, am_uv] [] (am_N I J) Q := c_193 ⟨hx, hx, hh, hh, hh, k⟩
theorem c_194 {X : am_X} {d : Nat} {I : Nat → Nat → Int32} {J : Nat → Nat → Int64} {Q : Option Value → am_M → Prop} {x0 : Int32} {x1 : Int32} {x2 : Int32} (k : ((Inv I ∧ gR x0 0 13823) ∧ ∀ (I3092 : Nat → Nat → Int32), lk I I3092 x0 → am_wp X (d + 3) 194 19 [.ref 105, .int x0, .int x1, .int x2, .int 0, am_uv] [] (am_N (am_up (am_up I3092 105 40 0) 105 41 1000000) J) Q)) : am_wp X (d + 3) 194 0 [.ref 105, .int x0, .int x1, .int x2, am_uv, am_uv] [] (am_N I J) Q := s194_0 (s194_1 (s194_2 k0_105 (Nat.le_of_ble_eq_true rfl) (w_189 k.1.1 k.1.2 (fun I3092 h1 => have k := k.2 I3092 h1; am_aft0 (s194_5 (s194_6 (s194_7 k0_105 (s194_10 (s194_11 (s194_13 k0_105 (s194_16 (s194_17 rfl (k)))))))))))))
theorem c_194_19 {X : am_X} {d : Nat} {I : Nat → Nat → Int32} {J : Nat → Nat → Int64} {Q : Option Value → am_M → Prop} {x0 x1 x2 m : Int32} {u5 : Value} (hu5 : u5.category = 1) (k : (((I 105 26) ≤ m → (((I 105 41) < (I 105 40) → Q (some (.int 0)) (am_N I J)) ∧ (¬ (I 105 41) < (I 105 40) → Q (some (.int 1)) (am_N I J)))) ∧ (¬ (I 105 26) ≤ m → (am_ix m 40 ∧ (((I 132 (Int32.toNatClampNeg m)) = 0 → ((x1 = (-9) → (am_ix m 40 ∧ (((I 129 (Int32.toNatClampNeg m)) = x2 → am_wp X (d + 3) 194 163 [.ref 105, .int x0, .int x1, .int x2, .int m, .int 0] [] (am_N I J) Q) ∧ (¬ (I 129 (Int32.toNatClampNeg m)) = x2 → ((am_ix m 40 ∧ p191 I (Int32.toNatClampNeg m)) ∧ (((bz (rr_is I (Int32.toNatClampNeg m))) = 0 → Q (some (.int 0)) (am_N I J)) ∧ (¬ (bz (rr_is I (Int32.toNatClampNeg m))) = 0 → am_wp X (d + 3) 194 92 [.ref 105, .int x0, .int x1, .int x2, .int m, .int 1] [] (am_N I J) Q))))))) ∧ (¬ x1 = (-9) → (am_ix m 40 ∧ (((I 129 (Int32.toNatClampNeg m)) = x1 → (am_ix m 40 ∧ (((I 129 (Int32.toNatClampNeg m)) = x2 → am_wp X (d + 3) 194 163 [.ref 105, .int x0, .int x1, .int x2, .int m, .int 0] [] (am_N I J) Q) ∧ (¬ (I 129 (Int32.toNatClampNeg m)) = x2 → ((am_ix m 40 ∧ p191 I (Int32.toNatClampNeg m)) ∧ (((bz (rr_is I (Int32.toNatClampNeg m))) = 0 → Q (some (.int 0)) (am_N I J)) ∧ (¬ (bz (rr_is I (Int32.toNatClampNeg m))) = 0 → am_wp X (d + 3) 194 92 [.ref 105, .int x0, .int x1, .int x2, .int m, .int 1] [] (am_N I J) Q))))))) ∧ (¬ (I 129 (Int32.toNatClampNeg m)) = x1 → am_wp X (d + 3) 194 163 [.ref 105, .int x0, .int x1, .int x2, .int m, .int 0] [] (am_N I J) Q)))))) ∧ (¬ (I 132 (Int32.toNatClampNeg m)) = 0 → am_wp X (d + 3) 194 163 [.ref 105, .int x0, .int x1, .int x2, .int m, .int 0] [] (am_N I J) Q)))))) : am_wp X (d + 3) 194 19 [.ref 105, .int x0, .int x1, .int x2, .int m, u5] [] (am_N I J) Q := s194_19 (s194_21 (s194_22 k0_105 (s194_25 (fun h3093 => have k := k.1 h3093; s194_169 (s194_170 k0_105 (s194_173 (s194_174 k0_105 (s194_177 (fun h3094 => have k := k.1 h3094; s194_184 (s194_185 (Or.inl rfl) (k))) (fun h3094 => have k := k.2 h3094; s194_180 (s194_181 (s194_185 (Or.inr rfl) (k))))))))) (fun h3093 => have k := k.2 h3093; s194_28 (s194_29 k0_105 p0_105_31 (s194_32 (have b3095 := k.1; have k := k.2; s194_34 k0_132 b3095 (s194_35 (fun h3096 => have k := k.1 h3096; s194_38 (s194_39 (s194_41 (fun h3097 => have k := k.1 h3097; s194_55 (s194_56 k0_105 p0_105_28 (s194_59 (have b3098 := k.1; have k := k.2; s194_61 k0_129 b3098 (s194_62 (s194_63 (fun h3099 => have k := k.1 h3099; s194_70 (s194_71 rfl (s194_73 (s194_75 (fun _ => s194_78 (k)) (fun h => absurd (show (0 : Int32) = 0 by decide) h))))) (fun h3099 => have k := k.2 h3099; s194_66 (s194_67 (s194_71 rfl (s194_73 (s194_75 (fun h => absurd h (show ¬ (1 : Int32) = 0 by decide)) (fun _ => s194_81 (s194_82 (s194_84 k0_105 (Nat.le_of_ble_eq_true rfl) (w_191 k.1.1 k.1.2 (have k := k.2; am_aft (s194_87 (fun h3102 => have k := k.1 h3102; s194_90 (s194_91 (Or.inl rfl) (k))) (fun h3102 => have k := k.2 h3102; k)))))))))))))))))) (fun h3097 => have k := k.2 h3097; s194_44 (s194_45 k0_105 p0_105_28 (s194_48 (have b3103 := k.1; have k := k.2; s194_50 k0_129 b3103 (s194_51 (s194_52 (fun h3104 => have k := k.1 h3104; s194_55 (s194_56 k0_105 p0_105_28 (s194_59 (have b3105 := k.1; have k := k.2; s194_61 k0_129 b3105 (s194_62 (s194_63 (fun h3106 => have k := k.1 h3106; s194_70 (s194_71 rfl (s194_73 (s194_75 (fun _ => s194_78 (k)) (fun h => absurd (show (0 : Int32) = 0 by decide) h))))) (fun h3106 => have k := k.2 h3106; s194_66 (s194_67 (s194_71 rfl (s194_73 (s194_75 (fun h => absurd h (show ¬ (1 : Int32) = 0 by decide)) (fun _ => s194_81 (s194_82 (s194_84 k0_105 (Nat.le_of_ble_eq_true rfl) (w_191 k.1.1 k.1.2 (have k := k.2; am_aft (s194_87 (fun h3109 => have k := k.1 h3109; s194_90 (s194_91 (Or.inl rfl) (k))) (fun h3109 => have k := k.2 h3109; k)))))))))))))))))) (fun h3104 => have k := k.2 h3104; s194_70 (s194_71 rfl (s194_73 (s194_75 (fun _ => s194_78 (k)) (fun h => absurd (show (0 : Int32) = 0 by decide) h)))))))))))))) (fun h3096 => have k := k.2 h3096; s194_70 (s194_71 rfl (s194_73 (s194_75 (fun _ => s194_78 (k)) (fun h => absurd (show (0 : Int32) = 0 by decide) h)))))))))))))
theorem c_194_92 {X : am_X} {d : Nat} {I : Nat → Nat → Int32} {J : Nat → Nat → Int64} {Q : Option Value → am_M → Prop} {x0 x1 x2 m : Int32} {u5 : Value} (hu5 : u5.category = 1) (k : (am_ix m 40 ∧ (((I 128 (Int32.toNatClampNeg m)) = 2 → ((am_ix m 40 ∧ am_ix (I 129 (Int32.toNatClampNeg m)) 8) ∧ (((rr_fr I (Int32.toNatClampNeg m)) ≤ (I 105 40) → ((am_ix m 40 ∧ am_ix ((am_up I 105 40 (I 105 40)) 129 (Int32.toNatClampNeg m)) 8) ∧ (((I 105 41) ≤ (rr_tl (am_up I 105 40 (I 105 40)) (Int32.toNatClampNeg m)) → am_wp X (d + 3) 194 163 [.ref 105, .int x0, .int x1, .int x2, .int m, u5] [] (am_N (am_up (am_up I 105 40 (I 105 40)) 105 41 (I 105 41)) J) Q) ∧ (¬ (I 105 41) ≤ (rr_tl (am_up I 105 40 (I 105 40)) (Int32.toNatClampNeg m)) → ((am_ix m 40 ∧ am_ix ((am_up I 105 40 (I 105 40)) 129 (Int32.toNatClampNeg m)) 8) ∧ am_wp X (d + 3) 194 163 [.ref 105, .int x0, .int x1, .int x2, .int m, u5] [] (am_N (am_up (am_up I 105 40 (I 105 40)) 105 41 (rr_tl (am_up I 105 40 (I 105 40)) (Int32.toNatClampNeg m))) J) Q))))) ∧ (¬ (rr_fr I (Int32.toNatClampNeg m)) ≤ (I 105 40) → ((am_ix m 40 ∧ am_ix (I 129 (Int32.toNatClampNeg m)) 8) ∧ ((am_ix m 40 ∧ am_ix ((am_up I 105 40 (rr_fr I (Int32.toNatClampNeg m))) 129 (Int32.toNatClampNeg m)) 8) ∧ (((I 105 41) ≤ (rr_tl (am_up I 105 40 (rr_fr I (Int32.toNatClampNeg m))) (Int32.toNatClampNeg m)) → am_wp X (d + 3) 194 163 [.ref 105, .int x0, .int x1, .int x2, .int m, u5] [] (am_N (am_up (am_up I 105 40 (rr_fr I (Int32.toNatClampNeg m))) 105 41 (I 105 41)) J) Q) ∧ (¬ (I 105 41) ≤ (rr_tl (am_up I 105 40 (rr_fr I (Int32.toNatClampNeg m))) (Int32.toNatClampNeg m)) → ((am_ix m 40 ∧ am_ix ((am_up I 105 40 (rr_fr I (Int32.toNatClampNeg m))) 129 (Int32.toNatClampNeg m)) 8) ∧ am_wp X (d + 3) 194 163 [.ref 105, .int x0, .int x1, .int x2, .int m, u5] [] (am_N (am_up (am_up I 105 40 (rr_fr I (Int32.toNatClampNeg m))) 105 41 (rr_tl (am_up I 105 40 (rr_fr I (Int32.toNatClampNeg m))) (Int32.toNatClampNeg m))) J) Q))))))))) ∧ (¬ (I 128 (Int32.toNatClampNeg m)) = 2 → am_wp X (d + 3) 194 163 [.ref 105, .int x0, .int x1, .int x2, .int m, u5] [] (am_N I J) Q)))) : am_wp X (d + 3) 194 92 [.ref 105, .int x0, .int x1, .int x2, .int m, u5] [] (am_N I J) Q := s194_92 (s194_93 k0_105 p0_105_27 (s194_96 (have b3112 := k.1; have k := k.2; s194_98 k0_128 b3112 (s194_99 (s194_100 (fun h3113 => have k := k.1 h3113; s194_103 (s194_104 (s194_105 (s194_107 k0_105 (Nat.le_of_ble_eq_true rfl) (w_192 k.1.1 k.1.2 (have k := k.2; am_aft (s194_110 (s194_111 k0_105 (s194_114 (fun h3114 => have k := k.1 h3114; s194_126 (s194_127 k0_105 (s194_130 k0_105 (s194_133 (s194_134 (s194_135 (s194_137 k0_105 (Nat.le_of_ble_eq_true rfl) (w_193 k.1.1 k.1.2 (have k := k.2; am_aft (s194_140 (s194_141 k0_105 (s194_144 (fun h3115 => have k := k.1 h3115; s194_156 (s194_157 k0_105 (s194_160 k0_105 (k)))) (fun h3115 => have k := k.2 h3115; s194_147 (s194_148 (s194_150 k0_105 (Nat.le_of_ble_eq_true rfl) (w_193 k.1.1 k.1.2 (have k := k.2; am_aft (s194_153 (s194_160 k0_105 (k)))))))))))))))))))) (fun h3114 => have k := k.2 h3114; s194_117 (s194_118 (s194_120 k0_105 (Nat.le_of_ble_eq_true rfl) (w_192 k.1.1 k.1.2 (have k := k.2; am_aft (s194_123 (s194_130 k0_105 (s194_133 (s194_134 (s194_135 (s194_137 k0_105 (Nat.le_of_ble_eq_true rfl) (w_193 k.1.1 k.1.2 (have k := k.2; am_aft (s194_140 (s194_141 k0_105 (s194_144 (fun h3116 => have k := k.1 h3116; s194_156 (s194_157 k0_105 (s194_160 k0_105 (k)))) (fun h3116 => have k := k.2 h3116; s194_147 (s194_148 (s194_150 k0_105 (Nat.le_of_ble_eq_true rfl) (w_193 k.1.1 k.1.2 (have k := k.2; am_aft (s194_153 (s194_160 k0_105 (k))))))))))))))))))))))))))))))))) (fun h3113 => have k := k.2 h3113; k))))))
theorem c_194_163 {X : am_X} {d : Nat} {I : Nat → Nat → Int32} {J : Nat → Nat → Int64} {Q : Option Value → am_M → Prop} {x0 x1 x2 m : Int32} {u5 : Value} (hu5 : u5.category = 1) (k : am_wp X (d + 3) 194 19 [.ref 105, .int x0, .int x1, .int x2, .int (m + 1), u5] [] (am_N I J) Q) : am_wp X (d + 3) 194 163 [.ref 105, .int x0, .int x1, .int x2, .int m, u5] [] (am_N I J) Q := s194_163 rfl (s194_166 (k))
/-! DOES A GUESS FIT what is asked for -/
def ga (S A : Nat → Bool) : Nat → Bool
  | 0 => true
  | m + 1 => ga S A m && (!A m || S m)
def gE (F : Nat → Int32) (A : Nat → Bool) : Nat → Int32
  | 0 => 0
  | m + 1 => if A m = true then (if F m ≤ gE F A m then gE F A m else F m) else gE F A m
def gL (F : Nat → Int32) (A : Nat → Bool) : Nat → Int32
  | 0 => 1000000
  | m + 1 => if A m = true then (if gL F A m ≤ F m then gL F A m else F m) else gL F A m
theorem ga_no {S A : Nat → Bool} {m b : Nat} (hm : m < b) (ha : A m = true) (hs : S m = false) : ga S A b = false := by
  induction b with
  | zero => omega
  | succ b ih =>
    show (ga S A b && (!A b || S b)) = false
    by_cases e : m = b
    · subst e
      rw [ha, hs]
      exact Bool.and_false _
    · rw [ih (by omega)]
      rfl
theorem ga_cg {S S' A A' : Nat → Bool} : ∀ m, (∀ r, r < m → A' r = A r) → (∀ r, r < m → A r = true → S' r = S r) → ga S' A' m = ga S A m := by
  intro m
  induction m with
  | zero => intro _ _; rfl
  | succ m ih =>
    intro h1 h2
    show (ga S' A' m && (!A' m || S' m)) = (ga S A m && (!A m || S m))
    rw [ih (fun r hr => h1 r (by omega)) (fun r hr => h2 r (by omega)), h1 m (by omega)]
    cases ha : A m with
    | false => rfl
    | true => rw [h2 m (by omega) ha]
theorem gE_cg {F F' : Nat → Int32} {A A' : Nat → Bool} : ∀ m, (∀ r, r < m → A' r = A r) → (∀ r, r < m → A r = true → F' r = F r) → gE F' A' m = gE F A m := by
  intro m
  induction m with
  | zero => intro _ _; rfl
  | succ m ih =>
    intro h1 h2
    show (if A' m = true then (if F' m ≤ gE F' A' m then gE F' A' m else F' m) else gE F' A' m) = (if A m = true then (if F m ≤ gE F A m then gE F A m else F m) else gE F A m)
    rw [ih (fun r hr => h1 r (by omega)) (fun r hr => h2 r (by omega)), h1 m (by omega)]
    by_cases ha : A m = true
    · rw [if_pos ha, if_pos ha, h2 m (by omega) ha]
    · rw [if_neg ha, if_neg ha]
theorem gL_cg {F F' : Nat → Int32} {A A' : Nat → Bool} : ∀ m, (∀ r, r < m → A' r = A r) → (∀ r, r < m → A r = true → F' r = F r) → gL F' A' m = gL F A m := by
  intro m
  induction m with
  | zero => intro _ _; rfl
  | succ m ih =>
    intro h1 h2
    show (if A' m = true then (if gL F' A' m ≤ F' m then gL F' A' m else F' m) else gL F' A' m) = (if A m = true then (if gL F A m ≤ F m then gL F A m else F m) else gL F A m)
    rw [ih (fun r hr => h1 r (by omega)) (fun r hr => h2 r (by omega)), h1 m (by omega)]
    by_cases ha : A m = true
    · rw [if_pos ha, if_pos ha, h2 m (by omega) ha]
    · rw [if_neg ha, if_neg ha]
/-- which are asked for: of one HOUSE alone (x1, -9: of all), but one (x2) -/
def gA (I : Nat → Nat → Int32) (x1 x2 : Int32) (r : Nat) : Bool := if I 132 r = 0 then (if x1 = -9 then (if I 129 r = x2 then false else true) else if I 129 r = x1 then (if I 129 r = x2 then false else true) else false) else false
/-- .. and are CLOCKS -/
def gK (I : Nat → Nat → Int32) (A : Nat → Bool) (r : Nat) : Bool := A r && decide (I 128 r = 2)
def dz (I I' : Nat → Nat → Int32) : Prop := ∀ a k, ¬ (a = 105 ∧ (k = 40 ∨ k = 41)) → I' a k = I a k
theorem dz.rs {I I' : Nat → Nat → Int32} (h : dz I I') (r : Nat) : rr_is I' r = rr_is I r ∧ rr_fr I' r = rr_fr I r ∧ rr_tl I' r = rr_tl I r := by
  unfold rr_is rr_fr rr_tl rr_h rr_p
  rw [h 128 r (by omega), h 131 r (by omega), h 129 r (by omega), h 130 r (by omega), h 133 _ (by omega), h 134 _ (by omega), h 135 _ (by omega), h 109 _ (by omega), h 110 _ (by omega), h 111 _ (by omega), h 112 _ (by omega), h 115 _ (by omega), h 116 _ (by omega)]
  exact ⟨rfl, rfl, rfl⟩
theorem dz.sm {I I' : Nat → Nat → Int32} (h : dz I I') : sm I I' := fun a k q => h a k (fun p => q (by unfold Sc; omega))
theorem bz_0 {b : Bool} : bz b = 0 ↔ b = false := by
  cases b
  · exact ⟨fun _ => rfl, fun _ => rfl⟩
  · exact ⟨fun h => absurd h (by decide), fun h => by cases h⟩
theorem w_194a {X : am_X} {d : Nat} {I : Nat → Nat → Int32} {J : Nat → Nat → Int64} {Q : Option Value → am_M → Prop} {x0 x1 x2 : Int32} {b : Nat} (hI : Inv I) (hb : b ≤ 40) (eb : I 105 26 = Int32.ofInt (b : Int)) (k : ∀ I' : Nat → Nat → Int32, dz I I' → (ga (rr_is I) (gA I x1 x2) b = true → I' 105 40 = gE (rr_fr I) (gK I (gA I x1 x2)) b ∧ I' 105 41 = gL (rr_tl I) (gK I (gA I x1 x2)) b) → Q (some (.int (bz (ga (rr_is I) (gA I x1 x2) b && !decide (gL (rr_tl I) (gK I (gA I x1 x2)) b < gE (rr_fr I) (gK I (gA I x1 x2)) b))))) (am_N I' J)) : ∀ m : Nat, m ≤ b → ∀ (I' : Nat → Nat → Int32) (u5 : Value), u5.category = 1 → dz I I' → ga (rr_is I) (gA I x1 x2) m = true → I' 105 40 = gE (rr_fr I) (gK I (gA I x1 x2)) m → I' 105 41 = gL (rr_tl I) (gK I (gA I x1 x2)) m → am_wp X (d + 3) 194 19 [.ref 105, .int x0, .int x1, .int x2, .int (Int32.ofInt (m : Int)), u5] [] (am_N I' J) Q := by
  refine am_down ?_ ?_
  · intro I' u5 h5 hs hg h1 h2
    have kk := k I' hs (fun _ => ⟨h1, h2⟩)
    rw [hg, Bool.true_and] at kk
    refine c_194_19 h5 ⟨fun _ => ⟨fun q => ?_, fun q => ?_⟩, fun q => absurd (by rw [hs 105 26 (by omega), eb]; exact Int32.le_refl _) q⟩
    · rw [h1, h2] at q
      rw [decide_eq_true q] at kk
      exact kk
    · rw [h1, h2] at q
      rw [decide_eq_false q] at kk
      exact kk
  · intro m hm ih I' u5 h5 hs hg h1 h2
    have ix : am_ix (Int32.ofInt (m : Int)) 40 := oi_ix (by omega) (by omega) (by omega)
    have hI' : Inv I' := hI.sm hs.sm
    obtain ⟨rs1, rs2, rs3⟩ := hs.rs m
    have ih' : ∀ (I1 : Nat → Nat → Int32) (u : Value), u.category = 1 → dz I I1 → ga (rr_is I) (gA I x1 x2) (m + 1) = true → I1 105 40 = gE (rr_fr I) (gK I (gA I x1 x2)) (m + 1) → I1 105 41 = gL (rr_tl I) (gK I (gA I x1 x2)) (m + 1) → am_wp X (d + 3) 194 163 [.ref 105, .int x0, .int x1, .int x2, .int (Int32.ofInt (m : Int)), u] [] (am_N I1 J) Q := by
      intro I1 u hu g0 g1 g2 g3
      refine c_194_163 hu ?_
      rw [oi_succ]
      exact ih I1 u hu g0 g1 g2 g3
    have no : gA I x1 x2 m = false → am_wp X (d + 3) 194 163 [.ref 105, .int x0, .int x1, .int x2, .int (Int32.ofInt (m : Int)), .int 0] [] (am_N I' J) Q := by
      intro q
      have q' : ¬ gK I (gA I x1 x2) m = true := by unfold gK; rw [q]; exact Bool.false_ne_true
      have e1 : ga (rr_is I) (gA I x1 x2) (m + 1) = ga (rr_is I) (gA I x1 x2) m := by
        show (ga (rr_is I) (gA I x1 x2) m && (!gA I x1 x2 m || rr_is I m)) = _
        rw [q]
        exact Bool.and_true _
      have e2 : gE (rr_fr I) (gK I (gA I x1 x2)) (m + 1) = gE (rr_fr I) (gK I (gA I x1 x2)) m := if_neg q'
      have e3 : gL (rr_tl I) (gK I (gA I x1 x2)) (m + 1) = gL (rr_tl I) (gK I (gA I x1 x2)) m := if_neg q'
      exact ih' I' _ rfl hs (by rw [e1]; exact hg) (by rw [e2]; exact h1) (by rw [e3]; exact h2)
    have yes : gA I x1 x2 m = true → ((bz (rr_is I' m)) = 0 → Q (some (.int 0)) (am_N I' J)) ∧ (¬ (bz (rr_is I' m)) = 0 → am_wp X (d + 3) 194 92 [.ref 105, .int x0, .int x1, .int x2, .int (Int32.ofInt (m : Int)), .int 1] [] (am_N I' J) Q) := by
      intro q
      rw [rs1]
      refine ⟨fun z => ?_, fun z => ?_⟩
      · have g := ga_no (S := rr_is I) hm q (bz_0.mp z)
        have kk := k I' hs (fun w => by rw [g] at w; cases w)
        rw [g] at kk
        exact kk
      · have g : ga (rr_is I) (gA I x1 x2) (m + 1) = true := by
          show (ga (rr_is I) (gA I x1 x2) m && (!gA I x1 x2 m || rr_is I m)) = true
          rw [hg, q]
          cases hr : rr_is I m with
          | false => exact absurd (bz_0.mpr hr) z
          | true => rfl
        have ixh : am_ix (I' 129 (Int32.toNatClampNeg (Int32.ofInt (m : Int)))) 8 := hI'.ixMH (am_ix_lt ix)
        refine c_194_92 rfl ⟨ix, fun w => ⟨⟨ix, ixh⟩, fun y => ?_, fun y => ?_⟩, fun w => ?_⟩
        · rw [oi_cln (by omega), hs 128 m (by omega)] at w
          rw [oi_cln (by omega)] at y ixh
          have kc : gK I (gA I x1 x2) m = true := by unfold gK; rw [q, decide_eq_true w]; rfl
          have y' := y
          rw [rs2, h1] at y'
          have s0 : ∀ a j, am_up I' 105 40 (I' 105 40) a j = I' a j := by
            intro a j
            rw [am_upv]
            split
            · rename_i e
              rw [e.1, e.2]
            · rfl
          have ixh' : am_ix (am_up I' 105 40 (I' 105 40) 129 (Int32.toNatClampNeg (Int32.ofInt (m : Int)))) 8 := by rw [s0, oi_cln (by omega)]; exact ixh
          have e2 : gE (rr_fr I) (gK I (gA I x1 x2)) (m + 1) = gE (rr_fr I) (gK I (gA I x1 x2)) m := (if_pos kc).trans (if_pos y')
          have d0 : dz I (am_up I' 105 40 (I' 105 40)) := fun a j p => (s0 a j).trans (hs a j p)
          have rt0 := (d0.rs m).2.2
          refine ⟨⟨ix, ixh'⟩, fun z => ?_, fun z => ⟨⟨ix, ixh'⟩, ?_⟩⟩
          · rw [oi_cln (by omega), rt0, h2] at z
            have e3 : gL (rr_tl I) (gK I (gA I x1 x2)) (m + 1) = gL (rr_tl I) (gK I (gA I x1 x2)) m := (if_pos kc).trans (if_pos z)
            refine ih' _ _ rfl (fun a j p => by rw [am_upv, if_neg (by omega)]; exact d0 a j p) g ?_ ?_
            · rw [am_upv, if_neg (by omega), s0, e2, h1]
            · rw [am_upv, if_pos (by omega), e3, h2]
          · rw [oi_cln (by omega), rt0, h2] at z
            have e3 : gL (rr_tl I) (gK I (gA I x1 x2)) (m + 1) = rr_tl I m := (if_pos kc).trans (if_neg z)
            refine ih' _ _ rfl (fun a j p => by rw [am_upv, if_neg (by omega)]; exact d0 a j p) g ?_ ?_
            · rw [am_upv, if_neg (by omega), s0, e2, h1]
            · rw [am_upv, if_pos (by omega), e3, oi_cln (by omega), rt0]
        · rw [oi_cln (by omega), hs 128 m (by omega)] at w
          have kc : gK I (gA I x1 x2) m = true := by unfold gK; rw [q, decide_eq_true w]; rfl
          have y' := y
          rw [oi_cln (by omega), rs2, h1] at y'
          have e2 : gE (rr_fr I) (gK I (gA I x1 x2)) (m + 1) = rr_fr I m := (if_pos kc).trans (if_neg y')
          rw [oi_cln (by omega), rs2]
          have d0 : dz I (am_up I' 105 40 (rr_fr I m)) := fun a j p => by rw [am_upv, if_neg (by omega)]; exact hs a j p
          have ixh' : am_ix (am_up I' 105 40 (rr_fr I m) 129 m) 8 := by
            rw [oi_cln (by omega)] at ixh
            rw [am_upv, if_neg (by omega)]
            exact ixh
          have rt0 := (d0.rs m).2.2
          refine ⟨⟨ix, by rw [oi_cln (by omega)] at ixh; exact ixh⟩, ⟨ix, ixh'⟩, fun z => ?_, fun z => ⟨⟨ix, ixh'⟩, ?_⟩⟩
          · rw [rt0, h2] at z
            have e3 : gL (rr_tl I) (gK I (gA I x1 x2)) (m + 1) = gL (rr_tl I) (gK I (gA I x1 x2)) m := (if_pos kc).trans (if_pos z)
            refine ih' _ _ rfl (fun a j p => by rw [am_upv, if_neg (by omega)]; exact d0 a j p) g ?_ ?_
            · rw [am_upv, if_neg (by omega), am_upv, if_pos (by omega), e2]
            · rw [am_upv, if_pos (by omega), e3, h2]
          · rw [rt0, h2] at z
            have e3 : gL (rr_tl I) (gK I (gA I x1 x2)) (m + 1) = rr_tl I m := (if_pos kc).trans (if_neg z)
            refine ih' _ _ rfl (fun a j p => by rw [am_upv, if_neg (by omega)]; exact d0 a j p) g ?_ ?_
            · rw [am_upv, if_neg (by omega), am_upv, if_pos (by omega), e2]
            · rw [am_upv, if_pos (by omega), e3, rt0]
        · rw [oi_cln (by omega), hs 128 m (by omega)] at w
          have kc : ¬ gK I (gA I x1 x2) m = true := by unfold gK; rw [decide_eq_false w, Bool.and_false]; exact Bool.false_ne_true
          have e2 : gE (rr_fr I) (gK I (gA I x1 x2)) (m + 1) = gE (rr_fr I) (gK I (gA I x1 x2)) m := if_neg kc
          have e3 : gL (rr_tl I) (gK I (gA I x1 x2)) (m + 1) = gL (rr_tl I) (gK I (gA I x1 x2)) m := if_neg kc
          exact ih' I' _ rfl hs g (by rw [e2]; exact h1) (by rw [e3]; exact h2)
    have p1 : p191 I' m := by
      have := hI'.p191 ix
      rwa [oi_cln (by omega)] at this
    refine c_194_19 h5 ⟨fun q => absurd q (by rw [hs 105 26 (by omega), eb, oi_le (by omega) (by omega)]; omega), fun _ => ?_⟩
    rw [oi_cln (by omega), hs 132 m (by omega), hs 129 m (by omega)]
    refine ⟨ix, fun q => ⟨fun w => ⟨ix, fun z => no ?_, fun z => ⟨⟨ix, p1⟩, yes ?_⟩⟩, fun w => ⟨ix, fun y => ⟨ix, fun z => no ?_, fun z => ⟨⟨ix, p1⟩, yes ?_⟩⟩, fun y => no ?_⟩⟩, fun q => no ?_⟩
    · exact (if_pos q).trans ((if_pos w).trans (if_pos z))
    · exact (if_pos q).trans ((if_pos w).trans (if_neg z))
    · exact (if_pos q).trans ((if_neg w).trans ((if_pos y).trans (if_pos z)))
    · exact (if_pos q).trans ((if_neg w).trans ((if_pos y).trans (if_neg z)))
    · exact (if_pos q).trans ((if_neg w).trans (if_neg y))
    · exact if_neg q
