def v_bitsForDrop (I : Nat → Nat → Int32) (x0 : Nat) (x1 : Int32) (x2 : Int32) (x3 : Int32) : Int32 := (if x2 = 8 then (if x3 = (-1) then (16777215 &&& (0 ^^^ (-1))) else (if x3 = x2 then 0 else 0)) else (if x3 = (-1) then (16777215 &&& (((v_strongEnough x1 (I x0 3)) &&& 5592405) ^^^ (-1))) else (if x3 = x2 then ((v_strongEnough x1 (I x0 3)) &&& 5592405) else 0)))
theorem w_bitsForDrop {X : am_X} {d : Nat} {I : Nat → Nat → Int32} {J : Nat → Nat → Int64} {Q : Option Value → am_M → Prop} {x0 : Nat} (hx0 : am_isH x0) {x1 : Int32} {x2 : Int32} {x3 : Int32} (k : Q (some (.int (v_bitsForDrop I x0 x1 x2 x3))) (am_N I J)) : am_wp X (d + 1) 9 0 [.ref x0, .int x1, .int x2, .int x3, am_uv] [] (am_N I J) Q := by
  have k : Q (some (.int (if x2 = 8 then (if x3 = (-1) then (16777215 &&& (0 ^^^ (-1))) else (if x3 = x2 then 0 else 0)) else (if x3 = (-1) then (16777215 &&& (((v_strongEnough x1 (I x0 3)) &&& 5592405) ^^^ (-1))) else (if x3 = x2 then ((v_strongEnough x1 (I x0 3)) &&& 5592405) else 0))))) (am_N I J) := k
  exact s9_0 (s9_1 (s9_3 (fun h2969 => have k := am_kt (F := (fun r => Q (some (.int r)) (am_N I J))) h2969 k; s9_6 (s9_7 (s9_21 rfl (s9_23 (s9_24 (s9_25 (fun h2970 => have k := am_kt (F := (fun r => Q (some (.int r)) (am_N I J))) h2970 k; s9_28 (s9_30 (s9_32 (s9_33 (s9_34 (s9_35 (k))))))) (fun h2970 => have k := am_kf (F := (fun r => Q (some (.int r)) (am_N I J))) h2970 k; s9_36 (s9_37 (s9_38 (fun h2971 => have k := am_kt (F := (fun r => Q (some (.int r)) (am_N I J))) h2971 k; s9_41 (s9_43 (s9_47 (k)))) (fun h2971 => have k := am_kf (F := (fun r => Q (some (.int r)) (am_N I J))) h2971 k; s9_46 (s9_47 (k)))))))))))) (fun h2969 => have k := am_kf (F := (fun r => Q (some (.int r)) (am_N I J))) h2969 k; s9_10 (s9_11 (s9_12 (k0_H hx0) (s9_15 (Nat.le_of_ble_eq_true rfl) (w_strongEnough (am_aft (s9_18 (s9_20 (s9_21 rfl (s9_23 (s9_24 (s9_25 (fun h2972 => have k := am_kt (F := (fun r => Q (some (.int r)) (am_N I J))) h2972 k; s9_28 (s9_30 (s9_32 (s9_33 (s9_34 (s9_35 (k))))))) (fun h2972 => have k := am_kf (F := (fun r => Q (some (.int r)) (am_N I J))) h2972 k; s9_36 (s9_37 (s9_38 (fun h2973 => have k := am_kt (F := (fun r => Q (some (.int r)) (am_N I J))) h2973 k; s9_41 (s9_43 (s9_47 (k)))) (fun h2973 => have k := am_kf (F := (fun r => Q (some (.int r)) (am_N I J))) h2973 k; s9_46 (s9_47 (k))))))))))))))))))))
def v_bitsForPillar (I : Nat → Nat → Int32) (x0 : Nat) (x1 : Nat) (x2 : Int32) (x3 : Int32) : Int32 := (if (v_hasPillar I x1 (I x0 2)) = 0 then 0 else (if (I x0 3) = (-2) then (16777215 &&& ((v_strongEnough x2 (v_needOf I x1 (I x0 2) x3)) ^^^ (-1))) else (if (I x0 3) = (-1) then (v_strongEnough x2 (v_needOf I x1 (I x0 2) x3)) else (if (I x0 3) = (v_fallsTo I x1 (I x0 2) x3) then (v_strongEnough x2 (v_needOf I x1 (I x0 2) x3)) else 0))))
theorem w_bitsForPillar {X : am_X} {d : Nat} {I : Nat → Nat → Int32} {J : Nat → Nat → Int64} {Q : Option Value → am_M → Prop} {x0 : Nat} (hx0 : am_isR x0) {x1 : Nat} (hx1 : am_isH x1) {x2 : Int32} {x3 : Int32} (hb : am_ix (I x0 2) 6) (k : Q (some (.int (v_bitsForPillar I x0 x1 x2 x3))) (am_N I J)) : am_wp X (d + 1) 10 0 [.ref x0, .ref x1, .int x2, .int x3, am_uv, am_uv] [] (am_N I J) Q := by
  have k : Q (some (.int (if (v_hasPillar I x1 (I x0 2)) = 0 then 0 else (if (I x0 3) = (-2) then (16777215 &&& ((v_strongEnough x2 (v_needOf I x1 (I x0 2) x3)) ^^^ (-1))) else (if (I x0 3) = (-1) then (v_strongEnough x2 (v_needOf I x1 (I x0 2) x3)) else (if (I x0 3) = (v_fallsTo I x1 (I x0 2) x3) then (v_strongEnough x2 (v_needOf I x1 (I x0 2) x3)) else 0)))))) (am_N I J) := k
  exact s10_0 (s10_1 (k0_R hx0) (s10_4 rfl (s10_6 (s10_7 (s10_9 (k0_H hx1) (Nat.le_of_ble_eq_true rfl) (w_hasPillar hx1 (am_aft (s10_12 (fun h2974 => have k := am_kt (F := (fun r => Q (some (.int r)) (am_N I J))) h2974 k; s10_15 (s10_16 (k))) (fun h2974 => have k := am_kf (F := (fun r => Q (some (.int r)) (am_N I J))) h2974 k; s10_17 (s10_18 (s10_19 (s10_21 (s10_22 (k0_H hx1) (Nat.le_of_ble_eq_true rfl) (w_needOf hx1 hb (am_aft (s10_25 (Nat.le_of_ble_eq_true rfl) (w_strongEnough (am_aft (s10_28 rfl (s10_30 (s10_31 (k0_R hx0) (s10_34 (s10_36 (fun h2975 => have k := am_kt (F := (fun r => Q (some (.int r)) (am_N I J))) h2975 k; s10_39 (s10_41 (s10_43 (s10_44 (s10_45 (s10_46 (k))))))) (fun h2975 => have k := am_kf (F := (fun r => Q (some (.int r)) (am_N I J))) h2975 k; s10_47 (s10_48 (k0_R hx0) (s10_51 (s10_52 (fun h2976 => have k := am_kt (F := (fun r => Q (some (.int r)) (am_N I J))) h2976 k; s10_69 (s10_71 (s10_75 (k)))) (fun h2976 => have k := am_kf (F := (fun r => Q (some (.int r)) (am_N I J))) h2976 k; s10_55 (s10_56 (k0_R hx0) (s10_59 (s10_60 (s10_62 (s10_63 (k0_H hx1) (Nat.le_of_ble_eq_true rfl) (w_fallsTo hx1 hb (am_aft (s10_66 (fun h2977 => have k := am_kt (F := (fun r => Q (some (.int r)) (am_N I J))) h2977 k; s10_69 (s10_71 (s10_75 (k)))) (fun h2977 => have k := am_kf (F := (fun r => Q (some (.int r)) (am_N I J))) h2977 k; s10_74 (s10_75 (k)))))))))))))))))))))))))))))))))))))))
theorem c_8 {X : am_X} {d : Nat} {I : Nat → Nat → Int32} {J : Nat → Nat → Int64} {Q : Option Value → am_M → Prop} {x0 : Nat} (hx0 : am_isR x0) {x1 : Nat} (hx1 : am_isH x1) {x2 : Int32} {x3 : Int32} (k : (((I x0 0) = 0 → Q (some (.int (v_bitsForDrop I x1 x2 x3 (I x0 3)))) (am_N I J)) ∧ ((I x0 0) = 1 → (am_ix (I x0 2) 6 ∧ (am_ix (I x0 2) 6 ∧ Q (some (.int (((v_bitsForPillar I x0 x1 x2 x3) &&& 5592405) ||| ((v_bitsForPillar I x0 x1 x2 8) &&& 11184810)))) (am_N I J)))) ∧ ((I x0 0) = 2 → Q (some (.int (v_strongEnough x2 (I x1 4)))) (am_N I J)) ∧ ((I x0 0) = 3 → Q (some (.int (v_strongEnough x2 (I x0 3)))) (am_N I J)) ∧ (¬ (I x0 0) = 0 → ¬ (I x0 0) = 1 → ¬ (I x0 0) = 2 → ¬ (I x0 0) = 3 → Q (some (.int (16777215 &&& ((v_strongEnough x2 (I x0 3)) ^^^ (-1))))) (am_N I J)))) : am_wp X (d + 2) 8 0 [.ref x0, .ref x1, .int x2, .int x3] [] (am_N I J) Q := s8_0 (s8_1 (k0_R hx0) (s8_4 (fun h2978 => have k := k.1 h2978; s8_36 (s8_37 (s8_38 (s8_39 (s8_40 (k0_R hx0) (s8_43 (Nat.le_of_ble_eq_true rfl) (w_bitsForDrop hx1 (have k := k; am_aft (s8_46 (k)))))))))) (fun h2979 => have k := k.2.1 h2979; s8_47 (s8_48 (s8_49 (s8_50 (s8_51 (Nat.le_of_ble_eq_true rfl) (w_bitsForPillar hx0 hx1 k.1 (have k := k.2; am_aft (s8_54 (s8_56 (s8_57 (s8_58 (s8_59 (s8_60 (s8_62 (Nat.le_of_ble_eq_true rfl) (w_bitsForPillar hx0 hx1 k.1 (have k := k.2; am_aft (s8_65 (s8_67 (s8_68 (s8_69 (k))))))))))))))))))))) (fun h2980 => have k := k.2.2.1 h2980; s8_70 (s8_71 (s8_72 (k0_H hx1) (s8_75 (Nat.le_of_ble_eq_true rfl) (w_strongEnough (am_aft (s8_78 (k)))))))) (fun h2981 => have k := k.2.2.2.1 h2981; s8_79 (s8_80 (s8_81 (k0_R hx0) (s8_84 (Nat.le_of_ble_eq_true rfl) (w_strongEnough (am_aft (s8_87 (k)))))))) (fun h2982 h2983 h2984 h2985 => have k := k.2.2.2.2 h2982 h2983 h2984 h2985; s8_88 (s8_90 (s8_91 (s8_92 (k0_R hx0) (s8_95 (Nat.le_of_ble_eq_true rfl) (w_strongEnough (am_aft (s8_98 (s8_99 (s8_100 (s8_101 (k))))))))))))))
/-! THE CLASS'S REPORT against a cell: what 8 answers -/
theorem drop_ek (I : Nat → Nat → Int32) (a : Nat) (x y z : Int32) : v_bitsForDrop I a x y z = k_drop x y (I a 3) z := by
  unfold v_bitsForDrop k_drop
  by_cases h8 : y = 8
  · rw [if_pos h8, if_pos h8]
  · rw [if_neg h8, if_neg h8]
theorem need_ek (I : Nat → Nat → Int32) (a : Nat) (x y : Int32) : v_needOf I a x y = k_need (I (a + 1) (Int32.toNatClampNeg x)) (I (a + 2) (Int32.toNatClampNeg x)) y := by
  unfold v_needOf k_need k_near
  by_cases h1 : I (a + 2) (Int32.toNatClampNeg x) = -1
  · rw [if_pos h1, if_pos h1]
    rfl
  · rw [if_neg h1, if_neg h1]
    by_cases h2 : y = 8
    · rw [if_pos h2, if_pos h2]
      rfl
    · rw [if_neg h2, if_neg h2]
      by_cases h3 : (I (a + 2) (Int32.toNatClampNeg x) - y) &&& 7 ≤ 1
      · rw [if_pos h3, if_pos h3, if_neg (by decide)]
        rfl
      · rw [if_neg h3, if_neg h3]
        by_cases h4 : (I (a + 2) (Int32.toNatClampNeg x) - y) &&& 7 = 7
        · rw [if_pos h4, if_pos h4, if_neg (by decide)]
          rfl
        · rw [if_neg h4, if_neg h4, if_pos rfl]
          rfl
theorem pil_ek {I : Nat → Nat → Int32} {a b : Nat} {x y : Int32} (hp : ¬ v_hasPillar I b (I a 2) = 0) : v_bitsForPillar I a b x y = k_pil x y (I (b + 1) (Int32.toNatClampNeg (I a 2))) (I (b + 2) (Int32.toNatClampNeg (I a 2))) (I a 3) := by
  unfold v_bitsForPillar k_pil
  rw [if_neg hp, need_ek]
  rfl
def kb (I : Nat → Nat → Int32) (a b : Nat) (far way : Int32) : Int32 := k_bits (I a 0) (I a 3) far way (I b 3) (I b 4) (I (b + 1) (Int32.toNatClampNeg (I a 2))) (I (b + 2) (Int32.toNatClampNeg (I a 2)))
def pb8 (I : Nat → Nat → Int32) (a b : Nat) : Prop := I a 0 = 1 → am_ix (I a 2) 6 ∧ ¬ v_hasPillar I b (I a 2) = 0
theorem w_8 {X : am_X} {d : Nat} {I : Nat → Nat → Int32} {J : Nat → Nat → Int64} {Q : Option Value → am_M → Prop} {x0 : Nat} (hx0 : am_isR x0) {x1 : Nat} (hx1 : am_isH x1) {x2 x3 : Int32} (hb : pb8 I x0 x1) (k : Q (some (.int (kb I x0 x1 x2 x3))) (am_N I J)) : am_wp X (d + 2) 8 0 [.ref x0, .ref x1, .int x2, .int x3] [] (am_N I J) Q := by
  unfold kb k_bits at k
  refine c_8 hx0 hx1 ⟨fun h => ?_, fun h => ?_, fun h => ?_, fun h => ?_, fun h0 h1 h2 h3 => ?_⟩
  · rw [if_pos h] at k
    rw [drop_ek]
    exact k
  · obtain ⟨b1, b2⟩ := hb h
    rw [if_neg (by rw [h]; decide), if_pos h] at k
    refine ⟨b1, b1, ?_⟩
    rw [pil_ek b2, pil_ek b2]
    exact k
  · rw [if_neg (by rw [h]; decide), if_neg (by rw [h]; decide), if_pos h] at k
    exact k
  · rw [if_neg (by rw [h]; decide), if_neg (by rw [h]; decide), if_neg (by rw [h]; decide), if_pos h] at k
    exact k
  · rw [if_neg h0, if_neg h1, if_neg h2, if_neg h3] at k
    exact k
theorem kb_cg {I I' : Nat → Nat → Int32} {a b : Nat} {x y : Int32} (ha : ∀ k, I' a k = I a k) (hb : ∀ k, I' b k = I b k) (h1 : ∀ k, I' (b + 1) k = I (b + 1) k) (h2 : ∀ k, I' (b + 2) k = I (b + 2) k) : kb I' a b x y = kb I a b x y := by
  unfold kb
  rw [ha, ha, ha, hb, hb, h1, h2]
theorem c_7 {X : am_X} {d : Nat} {I : Nat → Nat → Int32} {J : Nat → Nat → Int64} {Q : Option Value → am_M → Prop} {x0 : Int32} (hI : Inv I) (k : (am_ix x0 40 ∧ (((v_isHouse I (I (43 + (Int32.toNatClampNeg x0)) 1)) = 0 → (am_ix x0 40 ∧ (am_ix x0 40 ∧ (am_ix x0 40 ∧ Q none (am_N (am_up (am_up (am_up I 40 (Int32.toNatClampNeg x0) 0) 41 (Int32.toNatClampNeg x0) 0) 42 (Int32.toNatClampNeg x0) 1000000) J))))) ∧ (¬ (v_isHouse I (I (43 + (Int32.toNatClampNeg x0)) 1)) = 0 → (am_ix x0 40 ∧ (am_ix x0 40 ∧ (am_ix x0 40 ∧ am_wp X (d + 3) 7 46 [.ref 35, .int x0, .ref (43 + (Int32.toNatClampNeg x0)), .ref (3 + 4 * (Int32.toNatClampNeg (I (43 + (Int32.toNatClampNeg x0)) 1))), am_uv] [] (am_N (am_up (am_up (am_up I 40 (Int32.toNatClampNeg x0) 0) 41 (Int32.toNatClampNeg x0) 0) 42 (Int32.toNatClampNeg x0) 1000000) J) Q))))))) : am_wp X (d + 3) 7 0 [.ref 35, .int x0, am_uv, am_uv, am_uv] [] (am_N I J) Q := s7_0 (s7_1 k0_35 p0_35_1 (s7_4 (have b2986 := k.1; have k := k.2; s7_5 k0_36 (by decide) b2986 (p0_36 b2986) (s7_6 rfl (s7_7 (s7_8 k0_35 p0_35_0 (s7_11 (s7_12 (k0_R (isR_of b2986)) (s7_15 k0_1 (Nat.le_of_ble_eq_true rfl) (w_find hI (fun h => have k := k.1 h; am_aft (s7_18n rfl (s7_19 (s7_20 k0_35 p0_35_6 (s7_23 (s7_24 (have b2987 := k.1; have k := k.2; s7_25 k0_40 b2987 (s7_26 (s7_27 k0_35 p0_35_7 (s7_30 (s7_31 (have b2988 := k.1; have k := k.2; s7_32 k0_41 b2988 (s7_33 (s7_34 k0_35 p0_35_8 (s7_37 (s7_38 (have b2989 := k.1; have k := k.2; s7_40 k0_42 b2989 (s7_41n (s7_42n (s7_45 (k))))))))))))))))))))) (fun h => have b2990 := hI.ixHs h; have k := k.2 h; am_aft (s7_18 rfl (s7_19 (s7_20 k0_35 p0_35_6 (s7_23 (s7_24 (have b2991 := k.1; have k := k.2; s7_25 k0_40 b2991 (s7_26 (s7_27 k0_35 p0_35_7 (s7_30 (s7_31 (have b2992 := k.1; have k := k.2; s7_32 k0_41 b2992 (s7_33 (s7_34 k0_35 p0_35_8 (s7_37 (s7_38 (have b2993 := k.1; have k := k.2; s7_40 k0_42 b2993 (s7_41 (s7_42 (k))))))))))))))))))))))))))))))
theorem c_7_46 {X : am_X} {d : Nat} {I : Nat → Nat → Int32} {J : Nat → Nat → Int64} {Q : Option Value → am_M → Prop} {a b : Nat} (ha : am_isR a) (hb : am_isH b) {x0 : Int32} (k : (am_ix (I a 1) 8 ∧ (am_ix (I a 1) 8 ∧ (pb8 I a b ∧ (am_ix x0 40 ∧ am_wp X (d + 3) 7 75 [.ref 35, .int x0, .ref a, .ref b, am_uv] [] (am_N (am_up I 40 (Int32.toNatClampNeg x0) (kb I a b (I 37 (Int32.toNatClampNeg (I a 1))) (I 38 (Int32.toNatClampNeg (I a 1))))) J) Q))))) : am_wp X (d + 3) 7 46 [.ref 35, .int x0, .ref a, .ref b, am_uv] [] (am_N I J) Q := s7_46 (s7_47 k0_35 p0_35_6 (s7_50 (s7_51 (s7_52 (s7_53 (s7_54 k0_35 p0_35_3 (s7_57 (s7_58 (k0_R ha) (have b2994 := k.1; have k := k.2; s7_61 k0_37 b2994 (s7_62 (s7_63 k0_35 p0_35_4 (s7_66 (s7_67 (k0_R ha) (have b2995 := k.1; have k := k.2; s7_70 k0_38 b2995 (s7_71 (Nat.le_of_ble_eq_true rfl) (w_8 ha hb k.1 (have k := k.2; am_aft (have b2996 := k.1; have k := k.2; s7_74 k0_40 b2996 (k)))))))))))))))))))
theorem c_7_75 {X : am_X} {d : Nat} {I : Nat → Nat → Int32} {J : Nat → Nat → Int64} {Q : Option Value → am_M → Prop} {a b : Nat} (ha : am_isR a) (hb : am_isH b) {x0 : Int32} (k : (((I a 0) = 2 → am_wp X (d + 3) 7 83 [.ref 35, .int x0, .ref a, .ref b, am_uv] [] (am_N I J) Q) ∧ (¬ (I a 0) = 2 → Q none (am_N I J)))) : am_wp X (d + 3) 7 75 [.ref 35, .int x0, .ref a, .ref b, am_uv] [] (am_N I J) Q := s7_75 (s7_76 (k0_R ha) (s7_79 (s7_80 (fun h2997 => have k := k.1 h2997; k) (fun h2997 => have k := k.2 h2997; s7_139 (k)))))
theorem c_7_83 {X : am_X} {d : Nat} {I : Nat → Nat → Int32} {J : Nat → Nat → Int64} {Q : Option Value → am_M → Prop} {a b : Nat} (ha : am_isR a) (hb : am_isH b) {x0 : Int32} (k : (am_ix (I a 1) 8 ∧ am_wp X (d + 3) 7 104 [.ref 35, .int x0, .ref a, .ref b, .int (((I a 3) - (I b 5)) - (I 39 (Int32.toNatClampNeg (I a 1))))] [] (am_N I J) Q)) : am_wp X (d + 3) 7 83 [.ref 35, .int x0, .ref a, .ref b, am_uv] [] (am_N I J) Q := s7_83 (s7_84 (k0_R ha) (s7_87 (s7_88 (k0_H hb) (s7_91 (s7_92 (s7_93 k0_35 p0_35_5 (s7_96 (s7_97 (k0_R ha) (have b2998 := k.1; have k := k.2; s7_100 k0_39 b2998 (s7_101 (s7_102 rfl (k))))))))))))
theorem c_7_104 {X : am_X} {d : Nat} {I : Nat → Nat → Int32} {J : Nat → Nat → Int64} {Q : Option Value → am_M → Prop} {a b : Nat} (ha : am_isR a) (hb : am_isH b) {x0 : Int32} {t : Int32} (k : (am_ix x0 40 ∧ (am_ix x0 40 ∧ Q none (am_N (am_up (am_up I 41 (Int32.toNatClampNeg x0) (am_max 0 (t - (I b 6)))) 42 (Int32.toNatClampNeg x0) (am_min 1000000 (t + ((am_up I 41 (Int32.toNatClampNeg x0) (am_max 0 (t - (I b 6)))) b 6)))) J)))) : am_wp X (d + 3) 7 104 [.ref 35, .int x0, .ref a, .ref b, .int t] [] (am_N I J) Q := s7_104 (s7_105 k0_35 p0_35_7 (s7_108 (s7_109 (s7_110 (s7_112 (s7_113 (k0_H hb) (s7_116 (s7_117 (Nat.le_of_ble_eq_true rfl) (have b2999 := k.1; have k := k.2; s7_120 k0_41 b2999 (s7_121 (s7_122 k0_35 p0_35_8 (s7_125 (s7_126 (s7_128 (s7_130 (s7_131 (k0_H hb) (s7_134 (s7_135 (Nat.le_of_ble_eq_true rfl) (have b3000 := k.1; have k := k.2; s7_138 k0_42 b3000 (s7_139 (k)))))))))))))))))))))
/-- a REPORT of a HOUSE and a PILLAR that are there -/
def Wr (I : Nat → Nat → Int32) (r : Nat) : Prop := (∃ h : Nat, h < 8 ∧ I (43 + r) 1 = Int32.ofInt (h : Int) ∧ Int32.ofInt (h : Int) < I 1 1 ∧ (I (43 + r) 0 = 1 → ¬ v_hasPillar I (3 + 4 * h) (I (43 + r) 2) = 0)) ∧ okV (I (43 + r) 0) (I (43 + r) 3) ∧ (I (43 + r) 0 = 0 → gR (I (43 + r) 3) (-1) 7)
def Wf (I : Nat → Nat → Int32) : Prop := ∀ r : Nat, r < 40 → Int32.ofInt (r : Int) < I 35 2 → Wr I r
/-- nothing but what was weighed has changed -/
def wo (I I' : Nat → Nat → Int32) : Prop := ∀ a k, ¬ (37 ≤ a ∧ a ≤ 42) → I' a k = I a k
theorem wo.sm {I I' : Nat → Nat → Int32} (h : wo I I') : sm I I' := fun a k hk => h a k (fun q => hk (by unfold Sc; omega))
/-- .. and the times of what fits -/
def wx (I I' : Nat → Nat → Int32) : Prop := ∀ a k, ¬ (37 ≤ a ∧ a ≤ 42) → ¬ (a = 35 ∧ 9 ≤ k) → I' a k = I a k
theorem wo.wx {I I' : Nat → Nat → Int32} (h : wo I I') : wx I I' := fun a k hk _ => h a k hk
theorem wx.sm {I I' : Nat → Nat → Int32} (h : wx I I') : sm I I' := fun a k hk => h a k (fun q => hk (by unfold Sc; omega)) (fun q => hk (by unfold Sc; omega))
theorem wx.rf {I : Nat → Nat → Int32} : wx I I := fun _ _ _ _ => rfl
theorem wx.tr {I I' I'' : Nat → Nat → Int32} (h : wx I I') (h' : wx I' I'') : wx I I'' := fun a k hk hj => (h' a k hk hj).trans (h a k hk hj)
theorem wo.tr {I I' I'' : Nat → Nat → Int32} (h : wo I I') (h' : wo I' I'') : wo I I'' := fun a k hk => (h' a k hk).trans (h a k hk)
def q_h (I : Nat → Nat → Int32) (r : Nat) : Nat := Int32.toNatClampNeg (I (43 + r) 1)
theorem Wr.cg {I I' : Nat → Nat → Int32} {r : Nat} (h : Wr I r) (hr : r < 40) (hs : wx I I') : Wr I' r := by
  obtain ⟨⟨x, x1, x2, x3, x4⟩, x5⟩ := h
  unfold Wr
  rw [hs (43 + r) 0 (by omega) (by omega), hs (43 + r) 1 (by omega) (by omega), hs (43 + r) 2 (by omega) (by omega), hs (43 + r) 3 (by omega) (by omega), hs 1 1 (by omega) (by omega)]
  refine ⟨⟨x, x1, x2, x3, fun q => ?_⟩, x5⟩
  have := x4 q
  unfold v_hasPillar at this ⊢
  rw [hs (3 + 4 * x) 11 (by omega) (by omega)]
  exact this
theorem Wr.hp {I : Nat → Nat → Int32} {r : Nat} (h : Wr I r) : q_h I r < 8 ∧ I (43 + r) 1 = Int32.ofInt (q_h I r : Int) ∧ Int32.ofInt (q_h I r : Int) < I 1 1 ∧ (I (43 + r) 0 = 1 → ¬ v_hasPillar I (3 + 4 * q_h I r) (I (43 + r) 2) = 0) := by
  obtain ⟨⟨x, x1, x2, x3, x4⟩, -⟩ := h
  have e : q_h I r = x := by
    unfold q_h
    rw [x2, oi_cln (by omega)]
  rw [e]
  exact ⟨x1, x2, x3, x4⟩
theorem Wr.ih {I : Nat → Nat → Int32} {r : Nat} (h : Wr I r) (hI : Inv I) : ¬ v_isHouse I (I (43 + r) 1) = 0 := by
  obtain ⟨h1, h2, h3, -⟩ := h.hp
  unfold v_isHouse
  rw [h2, hI.1.2, if_neg (fun q => by have := (oi_lt (b := 0) (by omega) (by omega)).mp q; omega), if_neg (Int32.not_le.mpr h3)]
  decide
theorem Wr.b8 {I : Nat → Nat → Int32} {r : Nat} (h : Wr I r) (hI : Inv I) : pb8 I (43 + r) (3 + 4 * q_h I r) := by
  intro q
  have h4 := h.hp.2.2.2 q
  exact ⟨hI.ixP ⟨q_h I r, h.hp.1, rfl⟩ h4, h4⟩
def k_from (kind v off slip del : Int32) : Int32 := if kind = 2 then am_max 0 (((v - off) - del) - slip) else 0
def k_till (kind v off slip del : Int32) : Int32 := if kind = 2 then am_min 1000000 (((v - off) - del) + slip) else 1000000
def kf (I : Nat → Nat → Int32) (r : Nat) (del : Int32) : Int32 := k_from (I (43 + r) 0) (I (43 + r) 3) (I (3 + 4 * q_h I r) 5) (I (3 + 4 * q_h I r) 6) del
def kt (I : Nat → Nat → Int32) (r : Nat) (del : Int32) : Int32 := k_till (I (43 + r) 0) (I (43 + r) 3) (I (3 + 4 * q_h I r) 5) (I (3 + 4 * q_h I r) 6) del
def w7 (I I' : Nat → Nat → Int32) (r : Nat) : Prop := (I' 40 r = kb I (43 + r) (3 + 4 * q_h I r) (I 37 (q_h I r)) (I 38 (q_h I r)) ∧ I' 41 r = kf I r (I 39 (q_h I r)) ∧ I' 42 r = kt I r (I 39 (q_h I r))) ∧ ∀ a k, ¬ ((a = 40 ∨ a = 41 ∨ a = 42) ∧ k = r) → I' a k = I a k
def p7 (I : Nat → Nat → Int32) (x : Int32) : Prop := Inv I ∧ Wr I (Int32.toNatClampNeg x)
theorem w_7 {X : am_X} {d : Nat} {I : Nat → Nat → Int32} {J : Nat → Nat → Int64} {Q : Option Value → am_M → Prop} {x0 : Int32} (hx : am_ix x0 40) (hp : p7 I x0) (k : ∀ I1 : Nat → Nat → Int32, w7 I I1 (Int32.toNatClampNeg x0) → Q none (am_N I1 J)) : am_wp X (d + 3) 7 0 [.ref 35, .int x0, am_uv, am_uv, am_uv] [] (am_N I J) Q := by
  obtain ⟨hI, hw⟩ := hp
  have hr := am_ix_lt hx
  have e0 : Int32.toNatClampNeg (I (43 + Int32.toNatClampNeg x0) 1) = q_h I (Int32.toNatClampNeg x0) := rfl
  obtain ⟨h8, he, -, -⟩ := hw.hp
  refine c_7 hI ⟨hx, fun q => absurd q (hw.ih hI), fun _ => ⟨hx, hx, hx, ?_⟩⟩
  rw [e0]
  generalize hr0 : Int32.toNatClampNeg x0 = r at hr hw h8 he k ⊢
  have iR : am_isR (43 + r) := ⟨r, hr, rfl⟩
  have iH : am_isH (3 + 4 * q_h I r) := ⟨q_h I r, h8, rfl⟩
  have f1 : ∀ a k, ¬ ((a = 40 ∨ a = 41 ∨ a = 42) ∧ k = r) → (am_up (am_up (am_up I 40 r 0) 41 r 0) 42 r 1000000) a k = I a k := by
    intro a k q
    rw [am_upv, if_neg (by omega), am_upv, if_neg (by omega), am_upv, if_neg (by omega)]
  have g41 : (am_up (am_up (am_up I 40 r 0) 41 r 0) 42 r 1000000) 41 r = 0 := by
    rw [am_upv, if_neg (by omega), am_upv, if_pos (by omega)]
  have g42 : (am_up (am_up (am_up I 40 r 0) 41 r 0) 42 r 1000000) 42 r = 1000000 := by
    rw [am_upv, if_pos (by omega)]
  revert f1 g41 g42
  generalize am_up (am_up (am_up I 40 r 0) 41 r 0) 42 r 1000000 = I1
  intro f1 g41 g42
  have wo1 : wo I I1 := fun a k q => f1 a k (by omega)
  have ea : ∀ k, I1 (43 + r) k = I (43 + r) k := fun k => f1 _ _ (by omega)
  have eb : ∀ k, I1 (3 + 4 * q_h I r) k = I (3 + 4 * q_h I r) k := fun k => f1 _ _ (by omega)
  have eb1 : ∀ k, I1 (3 + 4 * q_h I r + 1) k = I (3 + 4 * q_h I r + 1) k := fun k => f1 _ _ (by omega)
  have eb2 : ∀ k, I1 (3 + 4 * q_h I r + 2) k = I (3 + 4 * q_h I r + 2) k := fun k => f1 _ _ (by omega)
  have eh : q_h I1 r = q_h I r := by unfold q_h; rw [ea]
  have ixh : am_ix (I1 (43 + r) 1) 8 := by rw [ea, he]; exact oi_ix (by omega) (by omega) (by omega)
  have ech : Int32.toNatClampNeg (I (43 + r) 1) = q_h I r := rfl
  have b8 : pb8 I1 (43 + r) (3 + 4 * q_h I r) := by
    have := (hw.cg hr wo1.wx).b8 (hI.sm wo1.sm)
    rwa [eh] at this
  refine c_7_46 iR iH ⟨ixh, ixh, b8, hx, ?_⟩
  rw [hr0, ea, ech, kb_cg ea eb eb1 eb2, f1 37 _ (by omega), f1 38 _ (by omega)]
  generalize hB : kb I (43 + r) (3 + 4 * q_h I r) (I 37 (q_h I r)) (I 38 (q_h I r)) = B
  have f2 : ∀ a k, ¬ ((a = 40 ∨ a = 41 ∨ a = 42) ∧ k = r) → am_up I1 40 r B a k = I a k := by
    intro a k q
    rw [am_upv, if_neg (by omega)]
    exact f1 a k q
  have k40 : am_up I1 40 r B 40 r = B := by rw [am_upv, if_pos (by omega)]
  have k41 : am_up I1 40 r B 41 r = 0 := by rw [am_upv, if_neg (by omega), g41]
  have k42 : am_up I1 40 r B 42 r = 1000000 := by rw [am_upv, if_neg (by omega), g42]
  revert f2 k40 k41 k42
  generalize am_up I1 40 r B = I2
  intro f2 k40 k41 k42
  refine c_7_75 iR iH ⟨fun q => ?_, fun q => k I2 ⟨⟨k40.trans hB.symm, ?_, ?_⟩, f2⟩⟩
  · rw [f2 _ _ (by omega)] at q
    have ixh2 : am_ix (I2 (43 + r) 1) 8 := by rw [f2 _ _ (by omega), he]; exact oi_ix (by omega) (by omega) (by omega)
    refine c_7_83 iR iH ⟨ixh2, c_7_104 iR iH ⟨hx, hx, ?_⟩⟩
    rw [hr0, f2 (43 + r) 1 (by omega), ech, f2 (43 + r) 3 (by omega), f2 (3 + 4 * q_h I r) 5 (by omega), f2 39 _ (by omega), am_upv, if_neg (by omega), f2 (3 + 4 * q_h I r) 6 (by omega)]
    refine k _ ⟨⟨?_, ?_, ?_⟩, fun a j p => ?_⟩
    · rw [am_upv, if_neg (by omega), am_upv, if_neg (by omega), k40, hB]
    · rw [am_upv, if_neg (by omega), am_upv, if_pos (by omega)]
      unfold kf k_from
      rw [if_pos q]
    · rw [am_upv, if_pos (by omega)]
      unfold kt k_till
      rw [if_pos q]
    · rw [am_upv, if_neg (by omega), am_upv, if_neg (by omega)]
      exact f2 a j p
  · rw [f2 _ _ (by omega)] at q
    unfold kf k_from
    rw [if_neg q]
    exact k41
  · rw [f2 _ _ (by omega)] at q
    unfold kt k_till
    rw [if_neg q]
    exact k42
theorem c_6 {X : am_X} {d : Nat} {I : Nat → Nat → Int32} {J : Nat → Nat → Int64} {Q : Option Value → am_M → Prop} {x0 : Int32} (k : am_wp X (d + 4) 6 2 [.ref 35, .int x0, .int 0, am_uv, am_uv] [] (am_N I J) Q) : am_wp X (d + 4) 6 0 [.ref 35, .int x0, am_uv, am_uv, am_uv] [] (am_N I J) Q := s6_0 (s6_1 rfl (k))
theorem c_6_2 {X : am_X} {d : Nat} {I : Nat → Nat → Int32} {J : Nat → Nat → Int64} {Q : Option Value → am_M → Prop} {x0 m : Int32} {u3 u4 : Value} (hu3 : u3.category = 1) (hu4 : u4.category = 1) (k : (((I 1 1) ≤ m → am_wp X (d + 4) 6 101 [.ref 35, .int x0, .int 0, u3, u4] [] (am_N I J) Q) ∧ (¬ (I 1 1) ≤ m → (am_ix m 8 ∧ (am_ix m 8 ∧ (am_ix m 8 ∧ (am_ix m 8 ∧ (am_ix m 8 ∧ (am_ix m 8 ∧ am_wp X (d + 4) 6 2 [.ref 35, .int x0, .int (m + 1), .int ((I (3 + 4 * (Int32.toNatClampNeg m)) 1) - (v_xOf x0)), .int ((I (3 + 4 * (Int32.toNatClampNeg m)) 2) - (v_yOf x0))] [] (am_N (am_up (am_up (am_up I 37 (Int32.toNatClampNeg m) (v_farOf ((I (3 + 4 * (Int32.toNatClampNeg m)) 1) - (v_xOf x0)) ((I (3 + 4 * (Int32.toNatClampNeg m)) 2) - (v_yOf x0)) (v_zOf x0))) 38 (Int32.toNatClampNeg m) (v_wayOf ((I (3 + 4 * (Int32.toNatClampNeg m)) 1) - (v_xOf x0)) ((I (3 + 4 * (Int32.toNatClampNeg m)) 2) - (v_yOf x0)))) 39 (Int32.toNatClampNeg m) (v_delay ((am_up I 37 (Int32.toNatClampNeg m) (v_farOf ((I (3 + 4 * (Int32.toNatClampNeg m)) 1) - (v_xOf x0)) ((I (3 + 4 * (Int32.toNatClampNeg m)) 2) - (v_yOf x0)) (v_zOf x0))) 37 (Int32.toNatClampNeg m)))) J) Q))))))))) : am_wp X (d + 4) 6 2 [.ref 35, .int x0, .int m, u3, u4] [] (am_N I J) Q := s6_2 (s6_3 (s6_4 k0_35 p0_35_0 (s6_7 k0_1 (s6_10 (fun h3001 => have k := k.1 h3001; s6_99 (s6_100 rfl (k))) (fun h3001 => have k := k.2 h3001; s6_13 (s6_14 k0_35 p0_35_0 (s6_17 k0_1 p0_1_0 (s6_20 (have b3002 := k.1; have k := k.2; s6_21 k0_2 (by decide) b3002 (p0_2 b3002) (s6_22 (k0_H (isH_of b3002)) (s6_25 (s6_26 (Nat.le_of_ble_eq_true rfl) (w_xOf (am_aft (s6_29 (s6_30 rfl (s6_31 (s6_32 k0_35 p0_35_0 (s6_35 k0_1 p0_1_0 (s6_38 (have b3003 := k.1; have k := k.2; s6_39 k0_2 (by decide) b3003 (p0_2 b3003) (s6_40 (k0_H (isH_of b3003)) (s6_43 (s6_44 (Nat.le_of_ble_eq_true rfl) (w_yOf (am_aft (s6_47 (s6_48 rfl (s6_50 (s6_51 k0_35 p0_35_3 (s6_54 (s6_55 (s6_56 (s6_58 (s6_59 (Nat.le_of_ble_eq_true rfl) (w_zOf (am_aft (s6_62 (Nat.le_of_ble_eq_true rfl) (w_farOf (am_aft (have b3004 := k.1; have k := k.2; s6_65 k0_37 b3004 (s6_66 (s6_67 k0_35 p0_35_4 (s6_70 (s6_71 (s6_72 (s6_74 (Nat.le_of_ble_eq_true rfl) (w_wayOf (am_aft (have b3005 := k.1; have k := k.2; s6_77 k0_38 b3005 (s6_78 (s6_79 k0_35 p0_35_5 (s6_82 (s6_83 (s6_84 k0_35 p0_35_3 (s6_87 (have b3006 := k.1; have k := k.2; s6_88 k0_37 b3006 (s6_89 (Nat.le_of_ble_eq_true rfl) (w_133 (am_aft (have b3007 := k.1; have k := k.2; s6_92 k0_39 b3007 (s6_93 rfl (s6_96 (k))))))))))))))))))))))))))))))))))))))))))))))))))))))))))))))))
theorem c_6_101 {X : am_X} {d : Nat} {I : Nat → Nat → Int32} {J : Nat → Nat → Int64} {Q : Option Value → am_M → Prop} {x0 m : Int32} {u3 u4 : Value} (hu3 : u3.category = 1) (hu4 : u4.category = 1) (k : (((I 35 2) ≤ m → Q none (am_N I J)) ∧ (¬ (I 35 2) ≤ m → (am_ix m 40 ∧ (((I (43 + (Int32.toNatClampNeg m)) 4) = 0 → am_wp X (d + 4) 6 101 [.ref 35, .int x0, .int (m + 1), u3, u4] [] (am_N I J) Q) ∧ (¬ (I (43 + (Int32.toNatClampNeg m)) 4) = 0 → (am_ix m 40 ∧ p7 I m ∧ ∀ (I1 : Nat → Nat → Int32), w7 I I1 (Int32.toNatClampNeg m) → am_wp X (d + 4) 6 101 [.ref 35, .int x0, .int (m + 1), u3, u4] [] (am_N I1 J) Q))))))) : am_wp X (d + 4) 6 101 [.ref 35, .int x0, .int m, u3, u4] [] (am_N I J) Q := s6_101 (s6_102 (s6_103 k0_35 (s6_106 (fun h3008 => have k := k.1 h3008; s6_132 (k)) (fun h3008 => have k := k.2 h3008; s6_109 (s6_110 k0_35 p0_35_1 (s6_113 (have b3009 := k.1; have k := k.2; s6_114 k0_36 (by decide) b3009 (p0_36 b3009) (s6_115 (k0_R (isR_of b3009)) (s6_118 (fun h3010 => have k := k.1 h3010; s6_126 rfl (s6_129 (k))) (fun h3010 => have k := k.2 h3010; s6_121 (s6_122 (s6_123 k0_35 (Nat.le_of_ble_eq_true rfl) (w_7 k.1 k.2.1 (fun I1 h1 => have k := k.2.2 I1 h1; am_aft0 (s6_126 rfl (s6_129 (k)))))))))))))))))
/-! WEIGH: a cell -/
def q_far (I : Nat → Nat → Int32) (c : Int32) (h : Nat) : Int32 := v_farOf (I (3 + 4 * h) 1 - v_xOf c) (I (3 + 4 * h) 2 - v_yOf c) (v_zOf c)
def q_way (I : Nat → Nat → Int32) (c : Int32) (h : Nat) : Int32 := v_wayOf (I (3 + 4 * h) 1 - v_xOf c) (I (3 + 4 * h) 2 - v_yOf c)
def q_so (I : Nat → Nat → Int32) (c : Int32) (r : Nat) : Int32 := kb I (43 + r) (3 + 4 * q_h I r) (q_far I c (q_h I r)) (q_way I c (q_h I r))
def q_from (I : Nat → Nat → Int32) (c : Int32) (r : Nat) : Int32 := kf I r (v_delay (q_far I c (q_h I r)))
def q_till (I : Nat → Nat → Int32) (c : Int32) (r : Nat) : Int32 := kt I r (v_delay (q_far I c (q_h I r)))
def Wh (I I' : Nat → Nat → Int32) (c : Int32) (m : Nat) : Prop := ∀ h, h < m → I' 37 h = q_far I c h ∧ I' 38 h = q_way I c h ∧ I' 39 h = v_delay (q_far I c h)
def Wg (I I' : Nat → Nat → Int32) (c : Int32) (m : Nat) : Prop := ∀ r, r < m → ¬ I (43 + r) 4 = 0 → I' 40 r = q_so I c r ∧ I' 41 r = q_from I c r ∧ I' 42 r = q_till I c r
theorem w_6a {X : am_X} {d : Nat} {I : Nat → Nat → Int32} {J : Nat → Nat → Int64} {Q : Option Value → am_M → Prop} {x0 : Int32} {n : Nat} (hn : n ≤ 8) (en : I 1 1 = Int32.ofInt (n : Int)) (k : ∀ (I' : Nat → Nat → Int32) (u3 u4 : Value), u3.category = 1 → u4.category = 1 → wo I I' → Wh I I' x0 n → am_wp X (d + 4) 6 101 [.ref 35, .int x0, .int 0, u3, u4] [] (am_N I' J) Q) : ∀ m : Nat, m ≤ n → ∀ (I' : Nat → Nat → Int32) (u3 u4 : Value), u3.category = 1 → u4.category = 1 → wo I I' → Wh I I' x0 m → am_wp X (d + 4) 6 2 [.ref 35, .int x0, .int (Int32.ofInt (m : Int)), u3, u4] [] (am_N I' J) Q := by
  refine am_down ?_ ?_
  · intro I' u3 u4 h3 h4 hs hW
    exact c_6_2 h3 h4 ⟨fun _ => k I' u3 u4 h3 h4 hs hW, fun q => absurd (by rw [hs 1 1 (by omega), en]; exact Int32.le_refl _) q⟩
  · intro m hm ih I' u3 u4 h3 h4 hs hW
    have ix : am_ix (Int32.ofInt (m : Int)) 8 := oi_ix (by omega) (by omega) (by omega)
    refine c_6_2 h3 h4 ⟨fun q => absurd q (by rw [hs 1 1 (by omega), en, oi_le (by omega) (by omega)]; omega), fun _ => ⟨ix, ix, ix, ix, ix, ix, ?_⟩⟩
    rw [oi_cln (by omega), oi_succ, hs (3 + 4 * m) 1 (by omega), hs (3 + 4 * m) 2 (by omega), am_upv I' 37, if_pos ⟨rfl, rfl⟩]
    refine ih _ _ _ rfl rfl (fun a j q => ?_) (fun h hh => ?_)
    · rw [am_upv, if_neg (by omega), am_upv, if_neg (by omega), am_upv, if_neg (by omega)]
      exact hs a j q
    · by_cases e : h = m
      · subst e
        refine ⟨?_, ?_, ?_⟩
        · rw [am_upv, if_neg (by omega), am_upv, if_neg (by omega), am_upv, if_pos (by omega)]
          rfl
        · rw [am_upv, if_neg (by omega), am_upv, if_pos (by omega)]
          rfl
        · rw [am_upv, if_pos (by omega)]
          rfl
      · obtain ⟨g1, g2, g3⟩ := hW h (by omega)
        refine ⟨?_, ?_, ?_⟩
        · rw [am_upv, if_neg (by omega), am_upv, if_neg (by omega), am_upv, if_neg (by omega)]
          exact g1
        · rw [am_upv, if_neg (by omega), am_upv, if_neg (by omega), am_upv, if_neg (by omega)]
          exact g2
        · rw [am_upv, if_neg (by omega), am_upv, if_neg (by omega), am_upv, if_neg (by omega)]
          exact g3
theorem w_6b {X : am_X} {d : Nat} {I : Nat → Nat → Int32} {J : Nat → Nat → Int64} {Q : Option Value → am_M → Prop} {x0 : Int32} {n b : Nat} (hI : Inv I) (hw : Wf I) (hn : n ≤ 8) (en : I 1 1 = Int32.ofInt (n : Int)) (hb : b ≤ 40) (eb : I 35 2 = Int32.ofInt (b : Int)) (k : ∀ I' : Nat → Nat → Int32, wo I I' → Wg I I' x0 b → Q none (am_N I' J)) : ∀ m : Nat, m ≤ b → ∀ (I' : Nat → Nat → Int32) (u3 u4 : Value), u3.category = 1 → u4.category = 1 → wo I I' → Wh I I' x0 n → Wg I I' x0 m → am_wp X (d + 4) 6 101 [.ref 35, .int x0, .int (Int32.ofInt (m : Int)), u3, u4] [] (am_N I' J) Q := by
  refine am_down ?_ ?_
  · intro I' u3 u4 h3 h4 hs hW hG
    exact c_6_101 h3 h4 ⟨fun _ => k I' hs hG, fun q => absurd (by rw [hs 35 2 (by omega), eb]; exact Int32.le_refl _) q⟩
  · intro m hm ih I' u3 u4 h3 h4 hs hW hG
    have ix : am_ix (Int32.ofInt (m : Int)) 40 := oi_ix (by omega) (by omega) (by omega)
    refine c_6_101 h3 h4 ⟨fun q => absurd q (by rw [hs 35 2 (by omega), eb, oi_le (by omega) (by omega)]; omega), fun _ => ⟨ix, fun q => ?_, fun q => ?_⟩⟩
    · rw [oi_cln (by omega), hs (43 + m) 4 (by omega)] at q
      rw [oi_succ]
      refine ih I' u3 u4 h3 h4 hs hW (fun r hr ho => ?_)
      by_cases e : r = m
      · subst e
        exact absurd q ho
      · exact hG r (by omega) ho
    · have wm : Wr I m := hw m (by omega) (by rw [eb, oi_lt (by omega) (by omega)]; omega)
      refine ⟨ix, ⟨hI.sm hs.sm, by rw [oi_cln (by omega)]; exact wm.cg (by omega) hs.wx⟩, fun I1 h1 => ?_⟩
      rw [oi_cln (by omega)] at h1
      obtain ⟨⟨t1, t2, t3⟩, t4⟩ := h1
      obtain ⟨q1, q2, q3, -⟩ := wm.hp
      have ea : ∀ k, I' (43 + m) k = I (43 + m) k := fun k => hs _ _ (by omega)
      have eh : q_h I' m = q_h I m := by unfold q_h; rw [ea]
      have hlt : q_h I m < n := by
        rw [en, oi_lt (by omega) (by omega)] at q3
        omega
      obtain ⟨f1, f2, f3⟩ := hW _ hlt
      have kfe : ∀ z, kf I' m z = kf I m z := by
        intro z
        unfold kf
        rw [eh, ea, ea, hs (3 + 4 * q_h I m) 5 (by omega), hs (3 + 4 * q_h I m) 6 (by omega)]
      have kte : ∀ z, kt I' m z = kt I m z := by
        intro z
        unfold kt
        rw [eh, ea, ea, hs (3 + 4 * q_h I m) 5 (by omega), hs (3 + 4 * q_h I m) 6 (by omega)]
      rw [eh, f1, f2, kb_cg ea (fun k => hs _ _ (by omega)) (fun k => hs _ _ (by omega)) (fun k => hs _ _ (by omega))] at t1
      rw [eh, f3, kfe] at t2
      rw [eh, f3, kte] at t3
      rw [oi_succ]
      refine ih I1 u3 u4 h3 h4 (fun a j p => (t4 a j (by omega)).trans (hs a j p)) (fun h hh => ?_) (fun r hr ho => ?_)
      · rw [t4 37 h (by omega), t4 38 h (by omega), t4 39 h (by omega)]
        exact hW h hh
      · by_cases e : r = m
        · subst e
          exact ⟨t1, t2, t3⟩
        · rw [t4 40 r (by omega), t4 41 r (by omega), t4 42 r (by omega)]
          exact hG r (by omega) ho
/-- what is known of a cell that was weighed -/
def We (I I' : Nat → Nat → Int32) (c : Int32) : Prop := wo I I' ∧ ∀ r : Nat, r < 40 → Int32.ofInt (r : Int) < I 35 2 → ¬ I (43 + r) 4 = 0 → I' 40 r = q_so I c r ∧ I' 41 r = q_from I c r ∧ I' 42 r = q_till I c r
theorem w_6 {X : am_X} {d : Nat} {I : Nat → Nat → Int32} {J : Nat → Nat → Int64} {Q : Option Value → am_M → Prop} {x0 : Int32} (hI : Inv I) (hw : Wf I) (k : ∀ I' : Nat → Nat → Int32, We I I' x0 → Q none (am_N I' J)) : am_wp X (d + 4) 6 0 [.ref 35, .int x0, am_uv, am_uv, am_uv] [] (am_N I J) Q := by
  obtain ⟨en, ln⟩ := hI.1.1.nat (by decide)
  obtain ⟨eb, lb⟩ := hI.2.2.2.2.2.1.1.nat (by decide)
  refine c_6 (w_6a (by omega) en (fun I1 u3 u4 h3 h4 hs hW => w_6b hI hw (by omega) en (by omega) eb (fun I2 hs2 hG => k I2 ⟨hs2, fun r hr hl ho => ?_⟩) 0 (by omega) I1 u3 u4 h3 h4 hs hW (fun r hr => absurd hr (by omega))) 0 (by omega) I am_uv am_uv rfl rfl (fun _ _ _ => rfl) (fun h hh => absurd hh (by omega)))
  refine hG r ?_ ho
  rw [eb, oi_lt (by omega) (by omega)] at hl
  omega
