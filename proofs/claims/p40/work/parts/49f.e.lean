def f_sum (f : Nat → Int32) : Nat → Int32
  | 0 => 0
  | m + 1 => f_sum f m + f m
theorem f_sum_eq {f g : Nat → Int32} : ∀ m, (∀ j, j < m → g j = f j) → f_sum g m = f_sum f m := by
  intro m
  induction m with
  | zero => intro _; rfl
  | succ m ih =>
    intro h
    show f_sum g m + g m = f_sum f m + f m
    rw [ih (fun j hj => h j (by omega)), h m (by omega)]
theorem c_58_4 {X : am_X} {d : Nat} {I : Nat → Nat → Int32} {J : Nat → Nat → Int64} {Q : Option Value → am_M → Prop} {n m : Int32} (k : (((I 1 1) ≤ m → Q (some (.int n)) (am_N I J)) ∧ (¬ (I 1 1) ≤ m → (am_ix m 8 ∧ am_wp X d 58 4 [.ref 1, .int (n + (I (3 + 4 * (Int32.toNatClampNeg m)) 11)), .int (m + 1)] [] (am_N I J) Q)))) : am_wp X d 58 4 [.ref 1, .int n, .int m] [] (am_N I J) Q := s58_4 (s58_5 (s58_6 k0_1 (s58_9 (fun h2688 => have k := k.1 h2688; s58_30 (s58_31 (k))) (fun h2688 => have k := k.2 h2688; s58_12 (s58_13 (s58_14 k0_1 p0_1_0 (s58_17 (have b2689 := k.1; have k := k.2; s58_18 k0_2 (by decide) b2689 (p0_2 b2689) (s58_19 (k0_H (isH_of b2689)) (s58_22 (s58_23 rfl (s58_24 rfl (s58_27 (k))))))))))))))
theorem wl_58_4 {X : am_X} {d : Nat} {I : Nat → Nat → Int32} {J : Nat → Nat → Int64} {Q : Option Value → am_M → Prop} {N : Nat} (hN : N ≤ 8) (hc : I 1 1 = Int32.ofInt (N : Int)) (k : Q (some (.int (f_sum (fun j => I (3 + 4 * j) 11) N))) (am_N I J)) : ∀ m : Nat, m ≤ N → am_wp X d 58 4 [.ref 1, .int (f_sum (fun j => I (3 + 4 * j) 11) m), .int (Int32.ofInt (m : Int))] [] (am_N I J) Q := by
  refine am_down ?_ ?_
  · exact c_58_4 ⟨fun _ => k, fun h => absurd (by rw [hc]; exact Int32.le_refl _) h⟩
  · intro m hm ih
    have hi : am_ix (Int32.ofInt (m : Int)) 8 := oi_ix (by omega) (by omega) (by omega)
    have e : f_sum (fun j => I (3 + 4 * j) 11) (m + 1) = f_sum (fun j => I (3 + 4 * j) 11) m + (I (3 + 4 * m) 11) := rfl
    rw [e, ← oi_succ] at ih
    refine c_58_4 ⟨fun h => absurd h (by rw [hc, oi_le (by omega) (by omega)]; omega), fun _ => ⟨hi, ?_⟩⟩
    rw [oi_cln (by omega)]
    exact ih
theorem c_58 {X : am_X} {d : Nat} {I : Nat → Nat → Int32} {J : Nat → Nat → Int64} {Q : Option Value → am_M → Prop} (k : am_wp X d 58 4 [.ref 1, .int 0, .int 0] [] (am_N I J) Q) : am_wp X d 58 0 [.ref 1, am_uv, am_uv] [] (am_N I J) Q := s58_0 (s58_1 rfl (s58_2 (s58_3 rfl (k))))
theorem w_58 {X : am_X} {d : Nat} {I : Nat → Nat → Int32} {J : Nat → Nat → Int64} {Q : Option Value → am_M → Prop} (h : gR (I 1 1) 0 8) (k : Q (some (.int (f_sum (fun j => I (3 + 4 * j) 11) (Int32.toNatClampNeg (I 1 1))))) (am_N I J)) : am_wp X d 58 0 [.ref 1, am_uv, am_uv] [] (am_N I J) Q := by
  obtain ⟨e, l⟩ := h.nat (by decide)
  exact c_58 (wl_58_4 (by omega) e k 0 (by omega))
theorem c_59_4 {X : am_X} {d : Nat} {I : Nat → Nat → Int32} {J : Nat → Nat → Int64} {Q : Option Value → am_M → Prop} {n m : Int32} (k : (((I 1 1) ≤ m → Q (some (.int n)) (am_N I J)) ∧ (¬ (I 1 1) ≤ m → (am_ix m 8 ∧ (((I (3 + 4 * (Int32.toNatClampNeg m)) 8) = (-9) → am_wp X d 59 4 [.ref 1, .int (n + 1), .int (m + 1)] [] (am_N I J) Q) ∧ (¬ (I (3 + 4 * (Int32.toNatClampNeg m)) 8) = (-9) → am_wp X d 59 4 [.ref 1, .int n, .int (m + 1)] [] (am_N I J) Q)))))) : am_wp X d 59 4 [.ref 1, .int n, .int m] [] (am_N I J) Q := s59_4 (s59_5 (s59_6 k0_1 (s59_9 (fun h2690 => have k := k.1 h2690; s59_35 (s59_36 (k))) (fun h2690 => have k := k.2 h2690; s59_12 (s59_13 k0_1 p0_1_0 (s59_16 (have b2691 := k.1; have k := k.2; s59_17 k0_2 (by decide) b2691 (p0_2 b2691) (s59_18 (k0_H (isH_of b2691)) (s59_21 (s59_23 (fun h2692 => have k := k.1 h2692; s59_26 rfl (s59_29 rfl (s59_32 (k)))) (fun h2692 => have k := k.2 h2692; s59_29 rfl (s59_32 (k)))))))))))))
theorem wl_59_4 {X : am_X} {d : Nat} {I : Nat → Nat → Int32} {J : Nat → Nat → Int64} {Q : Option Value → am_M → Prop} {N : Nat} (hN : N ≤ 8) (hc : I 1 1 = Int32.ofInt (N : Int)) (k : Q (some (.int (f_sum (fun j => if I (3 + 4 * j) 8 = -9 then 1 else 0) N))) (am_N I J)) : ∀ m : Nat, m ≤ N → am_wp X d 59 4 [.ref 1, .int (f_sum (fun j => if I (3 + 4 * j) 8 = -9 then 1 else 0) m), .int (Int32.ofInt (m : Int))] [] (am_N I J) Q := by
  refine am_down ?_ ?_
  · exact c_59_4 ⟨fun _ => k, fun h => absurd (by rw [hc]; exact Int32.le_refl _) h⟩
  · intro m hm ih
    have hi : am_ix (Int32.ofInt (m : Int)) 8 := oi_ix (by omega) (by omega) (by omega)
    have e : f_sum (fun j => if I (3 + 4 * j) 8 = -9 then 1 else 0) (m + 1) = f_sum (fun j => if I (3 + 4 * j) 8 = -9 then 1 else 0) m + (if I (3 + 4 * m) 8 = -9 then 1 else 0) := rfl
    rw [e, ← oi_succ] at ih
    refine c_59_4 ⟨fun h => absurd h (by rw [hc, oi_le (by omega) (by omega)]; omega), fun _ => ⟨hi, ?_⟩⟩
    rw [oi_cln (by omega)]
    refine ⟨fun h => ?_, fun h => ?_⟩
    · rw [if_pos h] at ih
      exact ih
    · rw [if_neg h, Int32.add_zero] at ih
      exact ih
theorem c_59 {X : am_X} {d : Nat} {I : Nat → Nat → Int32} {J : Nat → Nat → Int64} {Q : Option Value → am_M → Prop} (k : am_wp X d 59 4 [.ref 1, .int 0, .int 0] [] (am_N I J) Q) : am_wp X d 59 0 [.ref 1, am_uv, am_uv] [] (am_N I J) Q := s59_0 (s59_1 rfl (s59_2 (s59_3 rfl (k))))
theorem w_59 {X : am_X} {d : Nat} {I : Nat → Nat → Int32} {J : Nat → Nat → Int64} {Q : Option Value → am_M → Prop} (h : gR (I 1 1) 0 8) (k : Q (some (.int (f_sum (fun j => if I (3 + 4 * j) 8 = -9 then 1 else 0) (Int32.toNatClampNeg (I 1 1))))) (am_N I J)) : am_wp X d 59 0 [.ref 1, am_uv, am_uv] [] (am_N I J) Q := by
  obtain ⟨e, l⟩ := h.nat (by decide)
  exact c_59 (wl_59_4 (by omega) e k 0 (by omega))
theorem c_4_4 {X : am_X} {d : Nat} {I : Nat → Nat → Int32} {J : Nat → Nat → Int64} {Q : Option Value → am_M → Prop} {n m : Int32} (k : (((I 35 2) ≤ m → Q (some (.int n)) (am_N I J)) ∧ (¬ (I 35 2) ≤ m → (am_ix m 40 ∧ (((I (43 + (Int32.toNatClampNeg m)) 4) = 0 → am_wp X d 4 4 [.ref 35, .int n, .int (m + 1)] [] (am_N I J) Q) ∧ (¬ (I (43 + (Int32.toNatClampNeg m)) 4) = 0 → am_wp X d 4 4 [.ref 35, .int (n + 1), .int (m + 1)] [] (am_N I J) Q)))))) : am_wp X d 4 4 [.ref 35, .int n, .int m] [] (am_N I J) Q := s4_4 (s4_5 (s4_6 k0_35 (s4_9 (fun h2693 => have k := k.1 h2693; s4_33 (s4_34 (k))) (fun h2693 => have k := k.2 h2693; s4_12 (s4_13 k0_35 p0_35_1 (s4_16 (have b2694 := k.1; have k := k.2; s4_17 k0_36 (by decide) b2694 (p0_36 b2694) (s4_18 (k0_R (isR_of b2694)) (s4_21 (fun h2695 => have k := k.1 h2695; s4_27 rfl (s4_30 (k))) (fun h2695 => have k := k.2 h2695; s4_24 rfl (s4_27 rfl (s4_30 (k)))))))))))))
theorem wl_4_4 {X : am_X} {d : Nat} {I : Nat → Nat → Int32} {J : Nat → Nat → Int64} {Q : Option Value → am_M → Prop} {N : Nat} (hN : N ≤ 40) (hc : I 35 2 = Int32.ofInt (N : Int)) (k : Q (some (.int (f_sum (fun j => if I (43 + j) 4 = 0 then 0 else 1) N))) (am_N I J)) : ∀ m : Nat, m ≤ N → am_wp X d 4 4 [.ref 35, .int (f_sum (fun j => if I (43 + j) 4 = 0 then 0 else 1) m), .int (Int32.ofInt (m : Int))] [] (am_N I J) Q := by
  refine am_down ?_ ?_
  · exact c_4_4 ⟨fun _ => k, fun h => absurd (by rw [hc]; exact Int32.le_refl _) h⟩
  · intro m hm ih
    have hi : am_ix (Int32.ofInt (m : Int)) 40 := oi_ix (by omega) (by omega) (by omega)
    have e : f_sum (fun j => if I (43 + j) 4 = 0 then 0 else 1) (m + 1) = f_sum (fun j => if I (43 + j) 4 = 0 then 0 else 1) m + (if I (43 + m) 4 = 0 then 0 else 1) := rfl
    rw [e, ← oi_succ] at ih
    refine c_4_4 ⟨fun h => absurd h (by rw [hc, oi_le (by omega) (by omega)]; omega), fun _ => ⟨hi, ?_⟩⟩
    rw [oi_cln (by omega)]
    refine ⟨fun h => ?_, fun h => ?_⟩
    · rw [if_pos h, Int32.add_zero] at ih
      exact ih
    · rw [if_neg h] at ih
      exact ih
theorem c_4 {X : am_X} {d : Nat} {I : Nat → Nat → Int32} {J : Nat → Nat → Int64} {Q : Option Value → am_M → Prop} (k : am_wp X d 4 4 [.ref 35, .int 0, .int 0] [] (am_N I J) Q) : am_wp X d 4 0 [.ref 35, am_uv, am_uv] [] (am_N I J) Q := s4_0 (s4_1 rfl (s4_2 (s4_3 rfl (k))))
theorem w_4 {X : am_X} {d : Nat} {I : Nat → Nat → Int32} {J : Nat → Nat → Int64} {Q : Option Value → am_M → Prop} (h : gR (I 35 2) 0 40) (k : Q (some (.int (f_sum (fun j => if I (43 + j) 4 = 0 then 0 else 1) (Int32.toNatClampNeg (I 35 2))))) (am_N I J)) : am_wp X d 4 0 [.ref 35, am_uv, am_uv] [] (am_N I J) Q := by
  obtain ⟨e, l⟩ := h.nat (by decide)
  exact c_4 (wl_4_4 (by omega) e k 0 (by omega))
theorem c_230_47 {X : am_X} {d : Nat} {I : Nat → Nat → Int32} {J : Nat → Nat → Int64} {Q : Option Value → am_M → Prop} {x0 : Int32} {n m : Int32} (k : (((I 105 2) ≤ m → Q (some (.int n)) (am_N I J)) ∧ (¬ (I 105 2) ≤ m → (am_ix m 8 ∧ am_wp X d 230 47 [.ref 105, .int x0, .int (n + (I 114 (Int32.toNatClampNeg m))), .int (m + 1)] [] (am_N I J) Q)))) : am_wp X d 230 47 [.ref 105, .int x0, .int n, .int m] [] (am_N I J) Q := s230_47 (s230_48 (s230_49 k0_105 (s230_52 (fun h2696 => have k := k.1 h2696; s230_70 (s230_71 (k))) (fun h2696 => have k := k.2 h2696; s230_55 (s230_56 (s230_57 k0_105 p0_105_11 (s230_60 (have b2697 := k.1; have k := k.2; s230_61 k0_114 b2697 (s230_62 (s230_63 rfl (s230_64 rfl (s230_67 (k)))))))))))))
theorem wl_230_47 {X : am_X} {d : Nat} {I : Nat → Nat → Int32} {J : Nat → Nat → Int64} {Q : Option Value → am_M → Prop} {x0 : Int32} {N : Nat} (hN : N ≤ 8) (hc : I 105 2 = Int32.ofInt (N : Int)) (k : Q (some (.int (f_sum (fun j => I 114 j) N))) (am_N I J)) : ∀ m : Nat, m ≤ N → am_wp X d 230 47 [.ref 105, .int x0, .int (f_sum (fun j => I 114 j) m), .int (Int32.ofInt (m : Int))] [] (am_N I J) Q := by
  refine am_down ?_ ?_
  · exact c_230_47 ⟨fun _ => k, fun h => absurd (by rw [hc]; exact Int32.le_refl _) h⟩
  · intro m hm ih
    have hi : am_ix (Int32.ofInt (m : Int)) 8 := oi_ix (by omega) (by omega) (by omega)
    have e : f_sum (fun j => I 114 j) (m + 1) = f_sum (fun j => I 114 j) m + (I 114 m) := rfl
    rw [e, ← oi_succ] at ih
    refine c_230_47 ⟨fun h => absurd h (by rw [hc, oi_le (by omega) (by omega)]; omega), fun _ => ⟨hi, ?_⟩⟩
    rw [oi_cln (by omega)]
    exact ih
theorem c_230_79 {X : am_X} {d : Nat} {I : Nat → Nat → Int32} {J : Nat → Nat → Int64} {Q : Option Value → am_M → Prop} {x0 : Int32} {n m : Int32} (k : (((I 105 26) ≤ m → Q (some (.int n)) (am_N I J)) ∧ (¬ (I 105 26) ≤ m → (am_ix m 40 ∧ (((I 132 (Int32.toNatClampNeg m)) = 0 → am_wp X d 230 79 [.ref 105, .int x0, .int (n + 1), .int (m + 1)] [] (am_N I J) Q) ∧ (¬ (I 132 (Int32.toNatClampNeg m)) = 0 → am_wp X d 230 79 [.ref 105, .int x0, .int (n + 0), .int (m + 1)] [] (am_N I J) Q)))))) : am_wp X d 230 79 [.ref 105, .int x0, .int n, .int m] [] (am_N I J) Q := s230_79 (s230_80 (s230_81 k0_105 (s230_84 (fun h2698 => have k := k.1 h2698; s230_110 (s230_111 (k))) (fun h2698 => have k := k.2 h2698; s230_87 (s230_88 (s230_89 k0_105 p0_105_31 (s230_92 (have b2699 := k.1; have k := k.2; s230_93 k0_132 b2699 (s230_94 (fun h2700 => have k := k.1 h2700; s230_101 (s230_102 (s230_103 rfl (s230_104 rfl (s230_107 (k)))))) (fun h2700 => have k := k.2 h2700; s230_97 (s230_98 (s230_102 (s230_103 rfl (s230_104 rfl (s230_107 (k))))))))))))))))
theorem wl_230_79 {X : am_X} {d : Nat} {I : Nat → Nat → Int32} {J : Nat → Nat → Int64} {Q : Option Value → am_M → Prop} {x0 : Int32} {N : Nat} (hN : N ≤ 40) (hc : I 105 26 = Int32.ofInt (N : Int)) (k : Q (some (.int (f_sum (fun j => if I 132 j = 0 then 1 else 0) N))) (am_N I J)) : ∀ m : Nat, m ≤ N → am_wp X d 230 79 [.ref 105, .int x0, .int (f_sum (fun j => if I 132 j = 0 then 1 else 0) m), .int (Int32.ofInt (m : Int))] [] (am_N I J) Q := by
  refine am_down ?_ ?_
  · exact c_230_79 ⟨fun _ => k, fun h => absurd (by rw [hc]; exact Int32.le_refl _) h⟩
  · intro m hm ih
    have hi : am_ix (Int32.ofInt (m : Int)) 40 := oi_ix (by omega) (by omega) (by omega)
    have e : f_sum (fun j => if I 132 j = 0 then 1 else 0) (m + 1) = f_sum (fun j => if I 132 j = 0 then 1 else 0) m + (if I 132 m = 0 then 1 else 0) := rfl
    rw [e, ← oi_succ] at ih
    refine c_230_79 ⟨fun h => absurd h (by rw [hc, oi_le (by omega) (by omega)]; omega), fun _ => ⟨hi, ?_⟩⟩
    rw [oi_cln (by omega)]
    refine ⟨fun h => ?_, fun h => ?_⟩
    · rw [if_pos h] at ih
      exact ih
    · rw [if_neg h] at ih
      exact ih
theorem c_230_119 {X : am_X} {d : Nat} {I : Nat → Nat → Int32} {J : Nat → Nat → Int64} {Q : Option Value → am_M → Prop} {x0 : Int32} {n m : Int32} (k : (((I 105 2) ≤ m → Q (some (.int n)) (am_N I J)) ∧ (¬ (I 105 2) ≤ m → (am_ix m 8 ∧ (((I 117 (Int32.toNatClampNeg m)) = (-9) → am_wp X d 230 119 [.ref 105, .int x0, .int (n + 1), .int (m + 1)] [] (am_N I J) Q) ∧ (¬ (I 117 (Int32.toNatClampNeg m)) = (-9) → am_wp X d 230 119 [.ref 105, .int x0, .int (n + 0), .int (m + 1)] [] (am_N I J) Q)))))) : am_wp X d 230 119 [.ref 105, .int x0, .int n, .int m] [] (am_N I J) Q := s230_119 (s230_120 (s230_121 k0_105 (s230_124 (fun h2701 => have k := k.1 h2701; s230_152 (s230_153 (k))) (fun h2701 => have k := k.2 h2701; s230_127 (s230_128 (s230_129 k0_105 p0_105_14 (s230_132 (have b2702 := k.1; have k := k.2; s230_133 k0_117 b2702 (s230_134 (s230_136 (fun h2703 => have k := k.1 h2703; s230_139 (s230_140 (s230_144 (s230_145 rfl (s230_146 rfl (s230_149 (k))))))) (fun h2703 => have k := k.2 h2703; s230_143 (s230_144 (s230_145 rfl (s230_146 rfl (s230_149 (k))))))))))))))))
theorem wl_230_119 {X : am_X} {d : Nat} {I : Nat → Nat → Int32} {J : Nat → Nat → Int64} {Q : Option Value → am_M → Prop} {x0 : Int32} {N : Nat} (hN : N ≤ 8) (hc : I 105 2 = Int32.ofInt (N : Int)) (k : Q (some (.int (f_sum (fun j => if I 117 j = -9 then 1 else 0) N))) (am_N I J)) : ∀ m : Nat, m ≤ N → am_wp X d 230 119 [.ref 105, .int x0, .int (f_sum (fun j => if I 117 j = -9 then 1 else 0) m), .int (Int32.ofInt (m : Int))] [] (am_N I J) Q := by
  refine am_down ?_ ?_
  · exact c_230_119 ⟨fun _ => k, fun h => absurd (by rw [hc]; exact Int32.le_refl _) h⟩
  · intro m hm ih
    have hi : am_ix (Int32.ofInt (m : Int)) 8 := oi_ix (by omega) (by omega) (by omega)
    have e : f_sum (fun j => if I 117 j = -9 then 1 else 0) (m + 1) = f_sum (fun j => if I 117 j = -9 then 1 else 0) m + (if I 117 m = -9 then 1 else 0) := rfl
    rw [e, ← oi_succ] at ih
    refine c_230_119 ⟨fun h => absurd h (by rw [hc, oi_le (by omega) (by omega)]; omega), fun _ => ⟨hi, ?_⟩⟩
    rw [oi_cln (by omega)]
    refine ⟨fun h => ?_, fun h => ?_⟩
    · rw [if_pos h] at ih
      exact ih
    · rw [if_neg h] at ih
      exact ih
theorem c_121 {X : am_X} {d : Nat} {I : Nat → Nat → Int32} {J : Nat → Nat → Int64} {Q : Option Value → am_M → Prop} {x0 : Int32} (hI : Inv I) (k : ((x0 = 0 → Q (some (.int (I 1 1))) (am_N I J)) ∧ (x0 = 1 → ((gR (I 1 1) 0 8) ∧ Q (some (.int (f_sum (fun j => I (3 + 4 * j) 11) (Int32.toNatClampNeg (I 1 1))))) (am_N I J))) ∧ (x0 = 2 → Q (some (.int (I 35 2))) (am_N I J)) ∧ (x0 = 3 → ((gR (I 35 2) 0 40) ∧ Q (some (.int (f_sum (fun j => if I (43 + j) 4 = 0 then 0 else 1) (Int32.toNatClampNeg (I 35 2))))) (am_N I J))) ∧ (x0 = 4 → Q (some (.int (I 91 4))) (am_N I J)) ∧ (x0 = 5 → ((gR (I 1 1) 0 8) ∧ Q (some (.int (f_sum (fun j => if I (3 + 4 * j) 8 = -9 then 1 else 0) (Int32.toNatClampNeg (I 1 1))))) (am_N I J))) ∧ (¬ x0 = 0 → ¬ x0 = 1 → ¬ x0 = 2 → ¬ x0 = 3 → ¬ x0 = 4 → ¬ x0 = 5 → Q (some (.int (-2))) (am_N I J)))) : am_wp X (d + 1) 121 0 [.ref 0, .int x0] [] (am_N I J) Q := s121_0 (s121_1 (fun h2704 => have k := k.1 h2704; s121_40 (s121_41 k0_0 p0_0_0 (s121_44 k0_1 (s121_47 (k))))) (fun h2705 => have k := k.2.1 h2705; s121_48 (s121_49 k0_0 p0_0_0 (s121_52 k0_1 (Nat.le_of_ble_eq_true rfl) (w_58 k.1 (have k := k.2; am_aft (s121_55 (k))))))) (fun h2706 => have k := k.2.2.1 h2706; s121_56 (s121_57 k0_0 p0_0_1 (s121_60 k0_35 (s121_63 (k))))) (fun h2707 => have k := k.2.2.2.1 h2707; s121_64 (s121_65 k0_0 p0_0_1 (s121_68 k0_35 (Nat.le_of_ble_eq_true rfl) (w_4 k.1 (have k := k.2; am_aft (s121_71 (k))))))) (fun h2708 => have k := k.2.2.2.2.1 h2708; s121_72 (s121_73 k0_0 p0_0_5 (s121_76 k0_91 (s121_79 (k))))) (fun h2709 => have k := k.2.2.2.2.2.1 h2709; s121_80 (s121_81 k0_0 p0_0_0 (s121_84 k0_1 (Nat.le_of_ble_eq_true rfl) (w_59 k.1 (have k := k.2; am_aft (s121_87 (k))))))) (fun h2710 h2711 h2712 h2713 h2714 h2715 => have k := k.2.2.2.2.2.2 h2710 h2711 h2712 h2713 h2714 h2715; s121_88 (s121_90 (k))))
theorem c_230 {X : am_X} {d : Nat} {I : Nat → Nat → Int32} {J : Nat → Nat → Int64} {Q : Option Value → am_M → Prop} {x0 : Int32} (k : ((x0 = 0 → Q (some (.int (I 105 2))) (am_N I J)) ∧ (x0 = 1 → am_wp X d 230 47 [.ref 105, .int x0, .int 0, .int 0] [] (am_N I J) Q) ∧ (x0 = 2 → Q (some (.int (I 105 26))) (am_N I J)) ∧ (x0 = 3 → am_wp X d 230 79 [.ref 105, .int x0, .int 0, .int 0] [] (am_N I J) Q) ∧ (x0 = 4 → Q (some (.int (I 105 21))) (am_N I J)) ∧ (x0 = 5 → am_wp X d 230 119 [.ref 105, .int x0, .int 0, .int 0] [] (am_N I J) Q) ∧ (¬ x0 = 0 → ¬ x0 = 1 → ¬ x0 = 2 → ¬ x0 = 3 → ¬ x0 = 4 → ¬ x0 = 5 → Q (some (.int (-2))) (am_N I J)))) : am_wp X d 230 0 [.ref 105, .int x0, am_uv, am_uv] [] (am_N I J) Q := s230_0 (s230_1 rfl (s230_2 (s230_3 (fun h2716 => have k := k.1 h2716; s230_40 (s230_41 k0_105 (s230_44 (k)))) (fun h2717 => have k := k.2.1 h2717; s230_45 (s230_46 rfl (k))) (fun h2718 => have k := k.2.2.1 h2718; s230_72 (s230_73 k0_105 (s230_76 (k)))) (fun h2719 => have k := k.2.2.2.1 h2719; s230_77 (s230_78 rfl (k))) (fun h2720 => have k := k.2.2.2.2.1 h2720; s230_112 (s230_113 k0_105 (s230_116 (k)))) (fun h2721 => have k := k.2.2.2.2.2.1 h2721; s230_117 (s230_118 rfl (k))) (fun h2722 h2723 h2724 h2725 h2726 h2727 => have k := k.2.2.2.2.2.2 h2722 h2723 h2724 h2725 h2726 h2727; s230_154 (s230_156 (k))))))
theorem b_230 {X : am_X} {d : Nat} {I I1 : Nat → Nat → Int32} {J : Nat → Nat → Int64} {Q : Option Value → am_M → Prop} {x0 : Int32} (hag : am_ag I I1) (k : ((x0 = 0 → Q (some (.int (I 105 2))) (am_N I1 J)) ∧ (x0 = 1 → am_wp X d 230 47 [.ref 105, .int x0, .int 0, .int 0] [] (am_N I1 J) Q) ∧ (x0 = 2 → Q (some (.int (I 105 26))) (am_N I1 J)) ∧ (x0 = 3 → am_wp X d 230 79 [.ref 105, .int x0, .int 0, .int 0] [] (am_N I1 J) Q) ∧ (x0 = 4 → Q (some (.int (I 105 21))) (am_N I1 J)) ∧ (x0 = 5 → am_wp X d 230 119 [.ref 105, .int x0, .int 0, .int 0] [] (am_N I1 J) Q) ∧ (¬ x0 = 0 → ¬ x0 = 1 → ¬ x0 = 2 → ¬ x0 = 3 → ¬ x0 = 4 → ¬ x0 = 5 → Q (some (.int (-2))) (am_N I1 J)))) : am_wp X d 230 0 [.ref 105, .int x0, am_uv, am_uv] [] (am_N I1 J) Q := by
  refine c_230 ?_
  rw [hag 105 (by decide)]
  exact k
theorem e_121 {X : am_X} {d : Nat} {I : Nat → Nat → Int32} {J : Nat → Nat → Int64} {Q : Option Value → am_M → Prop} {x0 : Int32} (hI : Inv I) (k : ∀ (r : Int32) (I1 : Nat → Nat → Int32) (J1 : Nat → Nat → Int64), Md 230 0 [.ref 105, .int x0, am_uv, am_uv] (fun v => v = .int r) I1 → Q (some (.int r)) (am_N I1 J1)) : am_wp X (d + 1) 121 0 [.ref 0, .int x0] [] (am_N I J) Q := by
  obtain ⟨n1, l1⟩ := hI.1.1.nat (by decide)
  obtain ⟨n2, l2⟩ := hI.2.2.2.2.2.1.1.nat (by decide)
  have e2 : I 105 2 = I 1 1 := hI.1.2
  have e26 : I 105 26 = I 35 2 := hI.2.2.2.2.2.1.2
  have e21 : I 105 21 = I 91 4 := hI.2.2.2.1.2
  refine c_121 hI ⟨fun w => ?_, fun w => ⟨hI.1.1, ?_⟩, fun w => ?_, fun w => ⟨hI.2.2.2.2.2.1.1, ?_⟩, fun w => ?_, fun w => ⟨hI.1.1, ?_⟩, fun w0 w1 w2 w3 w4 w5 => ?_⟩
  · subst w
    refine k _ _ _ ?_
    intro X d J Q k'
    exact b_230 (I := I) am_ag.rf ⟨fun _ => k' _ _ _ (congrArg Value.int e2) hI, fun q => absurd q (by decide), fun q => absurd q (by decide), fun q => absurd q (by decide), fun q => absurd q (by decide), fun q => absurd q (by decide), fun q => absurd rfl q⟩
  · subst w
    refine k _ _ _ ?_
    intro X d J Q k'
    refine b_230 (I := I) am_ag.rf ⟨fun q => absurd q (by decide), fun _ => wl_230_47 (N := Int32.toNatClampNeg (I 1 1)) (by omega) (e2.trans n1) (k' _ _ _ (congrArg Value.int ?_) hI) 0 (by omega), fun q => absurd q (by decide), fun q => absurd q (by decide), fun q => absurd q (by decide), fun q => absurd q (by decide), fun _ q => absurd rfl q⟩
    exact f_sum_eq _ (fun j hj => ((hI.2.1 j (by omega)).2.1.2.2.2).symm)
  · subst w
    refine k _ _ _ ?_
    intro X d J Q k'
    exact b_230 (I := I) am_ag.rf ⟨fun q => absurd q (by decide), fun q => absurd q (by decide), fun _ => k' _ _ _ (congrArg Value.int e26) hI, fun q => absurd q (by decide), fun q => absurd q (by decide), fun q => absurd q (by decide), fun _ _ q => absurd rfl q⟩
  · subst w
    refine k _ _ _ ?_
    intro X d J Q k'
    refine b_230 (I := I) am_ag.rf ⟨fun q => absurd q (by decide), fun q => absurd q (by decide), fun q => absurd q (by decide), fun _ => wl_230_79 (N := Int32.toNatClampNeg (I 35 2)) (by omega) (e26.trans n2) (k' _ _ _ (congrArg Value.int ?_) hI) 0 (by omega), fun q => absurd q (by decide), fun q => absurd q (by decide), fun _ _ _ q => absurd rfl q⟩
    refine f_sum_eq _ (fun j hj => ?_)
    have g := hI.2.2.2.2.2.2.1 j (by omega)
    have q := g.2.1 (by rw [n2, oi_lt (by omega) (by omega)]; omega)
    rw [q]
    rcases g.2.2.1 with r | r <;> rw [r] <;> decide
  · subst w
    refine k _ _ _ ?_
    intro X d J Q k'
    exact b_230 (I := I) am_ag.rf ⟨fun q => absurd q (by decide), fun q => absurd q (by decide), fun q => absurd q (by decide), fun q => absurd q (by decide), fun _ => k' _ _ _ (congrArg Value.int e21) hI, fun q => absurd q (by decide), fun _ _ _ _ q => absurd rfl q⟩
  · subst w
    refine k _ _ _ ?_
    intro X d J Q k'
    refine b_230 (I := I) am_ag.rf ⟨fun q => absurd q (by decide), fun q => absurd q (by decide), fun q => absurd q (by decide), fun q => absurd q (by decide), fun q => absurd q (by decide), fun _ => wl_230_119 (N := Int32.toNatClampNeg (I 1 1)) (by omega) (e2.trans n1) (k' _ _ _ (congrArg Value.int ?_) hI) 0 (by omega), fun _ _ _ _ _ q => absurd rfl q⟩
    refine f_sum_eq _ (fun j hj => ?_)
    rw [(hI.2.1 j (by omega)).2.2.2.1 (by rw [n1, oi_lt (by omega) (by omega)]; omega)]
  · refine k _ _ _ ?_
    intro X d J Q k'
    exact b_230 (I := I) am_ag.rf ⟨fun q => absurd q w0, fun q => absurd q w1, fun q => absurd q w2, fun q => absurd q w3, fun q => absurd q w4, fun q => absurd q w5, fun _ _ _ _ _ _ => k' _ _ _ rfl hI⟩
