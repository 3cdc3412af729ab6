theorem c_12 {X : am_X} {d : Nat} {I : Nat → Nat → Int32} {J : Nat → Nat → Int64} {Q : Option Value → am_M → Prop} {x0 : Int32} {x1 : Int32} (k : am_wp X (d + 1) 12 17 [.ref 35, .int x0, .int x1, .int 16777215, .int 0] [] (am_N (am_up (am_up I 35 9 0) 35 10 1000000) J) Q) : am_wp X (d + 1) 12 0 [.ref 35, .int x0, .int x1, am_uv, am_uv] [] (am_N I J) Q := s12_0 (s12_2 rfl (s12_3 (s12_4 (s12_5 k0_35 (s12_8 (s12_9 (s12_11 k0_35 (s12_14 (s12_15 rfl (k))))))))))
theorem c_12_17 {X : am_X} {d : Nat} {I : Nat → Nat → Int32} {J : Nat → Nat → Int64} {Q : Option Value → am_M → Prop} {x0 x1 bits m : Int32} (k : (((I 35 2) ≤ m → (((I 35 10) < (I 35 9) → Q (some (.int 0)) (am_N I J)) ∧ (¬ (I 35 10) < (I 35 9) → Q (some (.int bits)) (am_N I J)))) ∧ (¬ (I 35 2) ≤ m → (am_ix m 40 ∧ (((I (43 + (Int32.toNatClampNeg m)) 4) = 0 → am_wp X (d + 1) 12 17 [.ref 35, .int x0, .int x1, .int bits, .int (m + 1)] [] (am_N I J) Q) ∧ (¬ (I (43 + (Int32.toNatClampNeg m)) 4) = 0 → (am_ix m 40 ∧ (((I (43 + (Int32.toNatClampNeg m)) 1) = x0 → ((1 = x1 → am_wp X (d + 1) 12 17 [.ref 35, .int x0, .int x1, .int bits, .int (m + 1)] [] (am_N I J) Q) ∧ (¬ 1 = x1 → (am_ix m 40 ∧ (am_ix m 40 ∧ (am_ix m 40 ∧ am_wp X (d + 1) 12 17 [.ref 35, .int x0, .int x1, .int (bits &&& (I 40 (Int32.toNatClampNeg m))), .int (m + 1)] [] (am_N (am_up (am_up I 35 9 (am_max (I 35 9) (I 41 (Int32.toNatClampNeg m)))) 35 10 (am_min (I 35 10) (I 42 (Int32.toNatClampNeg m)))) J) Q)))))) ∧ (¬ (I (43 + (Int32.toNatClampNeg m)) 1) = x0 → ((0 = x1 → am_wp X (d + 1) 12 17 [.ref 35, .int x0, .int x1, .int bits, .int (m + 1)] [] (am_N I J) Q) ∧ (¬ 0 = x1 → (am_ix m 40 ∧ (am_ix m 40 ∧ (am_ix m 40 ∧ am_wp X (d + 1) 12 17 [.ref 35, .int x0, .int x1, .int (bits &&& (I 40 (Int32.toNatClampNeg m))), .int (m + 1)] [] (am_N (am_up (am_up I 35 9 (am_max (I 35 9) (I 41 (Int32.toNatClampNeg m)))) 35 10 (am_min (I 35 10) (I 42 (Int32.toNatClampNeg m)))) J) Q)))))))))))))) : am_wp X (d + 1) 12 17 [.ref 35, .int x0, .int x1, .int bits, .int m] [] (am_N I J) Q := s12_17 (s12_19 (s12_20 k0_35 (s12_23 (fun h3011 => have k := k.1 h3011; s12_114 (s12_115 k0_35 (s12_118 (s12_119 k0_35 (s12_122 (fun h3012 => have k := k.1 h3012; s12_129 (s12_130 (k))) (fun h3012 => have k := k.2 h3012; s12_125 (s12_126 (s12_130 (k))))))))) (fun h3011 => have k := k.2 h3011; s12_26 (s12_27 k0_35 p0_35_1 (s12_30 (have b3013 := k.1; have k := k.2; s12_32 k0_36 (by decide) b3013 (p0_36 b3013) (s12_33 (k0_R (isR_of b3013)) (s12_36 (fun h3014 => have k := k.1 h3014; s12_108 rfl (s12_111 (k))) (fun h3014 => have k := k.2 h3014; s12_39 (s12_40 k0_35 p0_35_1 (s12_43 (have b3015 := k.1; have k := k.2; s12_45 k0_36 (by decide) b3015 (p0_36 b3015) (s12_46 (k0_R (isR_of b3015)) (s12_49 (s12_50 (fun h3016 => have k := k.1 h3016; s12_53 (s12_54 (s12_58 (s12_59 (fun h3017 => have k := k.1 h3017; s12_108 rfl (s12_111 (k))) (fun h3017 => have k := k.2 h3017; s12_62 (s12_63 (s12_64 k0_35 p0_35_6 (s12_67 (have b3018 := k.1; have k := k.2; s12_69 k0_40 b3018 (s12_70 (s12_71 rfl (s12_72 (s12_73 (s12_74 k0_35 (s12_77 (s12_78 k0_35 p0_35_7 (s12_81 (have b3019 := k.1; have k := k.2; s12_83 k0_41 b3019 (s12_84 (Nat.le_of_ble_eq_true rfl) (s12_87 k0_35 (s12_90 (s12_91 (s12_92 k0_35 (s12_95 (s12_96 k0_35 p0_35_8 (s12_99 (have b3020 := k.1; have k := k.2; s12_101 k0_42 b3020 (s12_102 (Nat.le_of_ble_eq_true rfl) (s12_105 k0_35 (s12_108 rfl (s12_111 (k)))))))))))))))))))))))))))))))) (fun h3016 => have k := k.2 h3016; s12_57 (s12_58 (s12_59 (fun h3021 => have k := k.1 h3021; s12_108 rfl (s12_111 (k))) (fun h3021 => have k := k.2 h3021; s12_62 (s12_63 (s12_64 k0_35 p0_35_6 (s12_67 (have b3022 := k.1; have k := k.2; s12_69 k0_40 b3022 (s12_70 (s12_71 rfl (s12_72 (s12_73 (s12_74 k0_35 (s12_77 (s12_78 k0_35 p0_35_7 (s12_81 (have b3023 := k.1; have k := k.2; s12_83 k0_41 b3023 (s12_84 (Nat.le_of_ble_eq_true rfl) (s12_87 k0_35 (s12_90 (s12_91 (s12_92 k0_35 (s12_95 (s12_96 k0_35 p0_35_8 (s12_99 (have b3024 := k.1; have k := k.2; s12_101 k0_42 b3024 (s12_102 (Nat.le_of_ble_eq_true rfl) (s12_105 k0_35 (s12_108 rfl (s12_111 (k)))))))))))))))))))))))))))))))))))))))))))))))
theorem c_14 {X : am_X} {d : Nat} {I : Nat → Nat → Int32} {J : Nat → Nat → Int64} {Q : Option Value → am_M → Prop} {x0 : Int32} (k : am_wp X d 14 5 [.ref 35, .int x0, .int 16777215, .int 0, am_uv, am_uv] [] (am_N I J) Q) : am_wp X d 14 0 [.ref 35, .int x0, am_uv, am_uv, am_uv, am_uv] [] (am_N I J) Q := s14_0 (s14_2 rfl (s14_3 (s14_4 rfl (k))))
theorem c_14_5 {X : am_X} {d : Nat} {I : Nat → Nat → Int32} {J : Nat → Nat → Int64} {Q : Option Value → am_M → Prop} {x0 bits m : Int32} {u3 u4 : Value} (hu3 : u3.category = 1) (hu4 : u4.category = 1) (k : (((I 35 2) ≤ m → Q (some (.int bits)) (am_N I J)) ∧ (¬ (I 35 2) ≤ m → (am_ix m 40 ∧ (((I (43 + (Int32.toNatClampNeg m)) 4) = 0 → am_wp X d 14 5 [.ref 35, .int x0, .int bits, .int (m + 1), .ref (43 + (Int32.toNatClampNeg m)), .int 0] [] (am_N I J) Q) ∧ (¬ (I (43 + (Int32.toNatClampNeg m)) 4) = 0 → (((I (43 + (Int32.toNatClampNeg m)) 0) = 0 → (((I (43 + (Int32.toNatClampNeg m)) 3) = (-1) → (((I (43 + (Int32.toNatClampNeg m)) 1) = x0 → am_wp X d 14 5 [.ref 35, .int x0, .int bits, .int (m + 1), .ref (43 + (Int32.toNatClampNeg m)), .int 1] [] (am_N I J) Q) ∧ (¬ (I (43 + (Int32.toNatClampNeg m)) 1) = x0 → (am_ix m 40 ∧ am_wp X d 14 5 [.ref 35, .int x0, .int (bits &&& (I 40 (Int32.toNatClampNeg m))), .int (m + 1), .ref (43 + (Int32.toNatClampNeg m)), .int 1] [] (am_N I J) Q)))) ∧ (¬ (I (43 + (Int32.toNatClampNeg m)) 3) = (-1) → am_wp X d 14 5 [.ref 35, .int x0, .int bits, .int (m + 1), .ref (43 + (Int32.toNatClampNeg m)), .int 0] [] (am_N I J) Q))) ∧ (¬ (I (43 + (Int32.toNatClampNeg m)) 0) = 0 → am_wp X d 14 5 [.ref 35, .int x0, .int bits, .int (m + 1), .ref (43 + (Int32.toNatClampNeg m)), .int 0] [] (am_N I J) Q)))))))) : am_wp X d 14 5 [.ref 35, .int x0, .int bits, .int m, u3, u4] [] (am_N I J) Q := s14_5 (s14_6 (s14_7 k0_35 (s14_10 (fun h3025 => have k := k.1 h3025; s14_82 (s14_83 (k))) (fun h3025 => have k := k.2 h3025; s14_13 (s14_14 k0_35 p0_35_1 (s14_17 (have b3026 := k.1; have k := k.2; s14_18 k0_36 (by decide) b3026 (p0_36 b3026) (s14_19 rfl (s14_21 (s14_23 (k0_R (isR_of b3026)) (s14_26 (fun h3027 => have k := k.1 h3027; s14_50 (s14_51 rfl (s14_53 (s14_55 (fun _ => s14_76 rfl (s14_79 (k))) (fun h => absurd (show (0 : Int32) = 0 by decide) h))))) (fun h3027 => have k := k.2 h3027; s14_29 (s14_31 (k0_R (isR_of b3026)) (s14_34 (fun h3029 => have k := k.1 h3029; s14_37 (s14_39 (k0_R (isR_of b3026)) (s14_42 (s14_43 (fun h3030 => have k := k.1 h3030; s14_46 (s14_47 (s14_51 rfl (s14_53 (s14_55 (fun h => absurd h (show ¬ (1 : Int32) = 0 by decide)) (fun _ => s14_58 (s14_60 (k0_R (isR_of b3026)) (s14_63 (s14_64 (fun h3032 => have k := k.1 h3032; s14_76 rfl (s14_79 (k))) (fun h3032 => have k := k.2 h3032; s14_67 (s14_68 (s14_69 k0_35 p0_35_6 (s14_72 (have b3033 := k.1; have k := k.2; s14_73 k0_40 b3033 (s14_74 (s14_75 rfl (s14_76 rfl (s14_79 (k))))))))))))))))))) (fun h3030 => have k := k.2 h3030; s14_50 (s14_51 rfl (s14_53 (s14_55 (fun _ => s14_76 rfl (s14_79 (k))) (fun h => absurd (show (0 : Int32) = 0 by decide) h))))))))) (fun h3029 => have k := k.2 h3029; s14_50 (s14_51 rfl (s14_53 (s14_55 (fun _ => s14_76 rfl (s14_79 (k))) (fun h => absurd (show (0 : Int32) = 0 by decide) h)))))))))))))))))))
/-! WHAT FITS: bits that fit the REPORTS asked for -/
def fb (S : Nat → Int32) (A : Nat → Bool) : Nat → Int32
  | 0 => 16777215
  | m + 1 => if A m = true then fb S A m &&& S m else fb S A m
def fF (F : Nat → Int32) (A : Nat → Bool) : Nat → Int32
  | 0 => 0
  | m + 1 => if A m = true then am_max (fF F A m) (F m) else fF F A m
def fT (F : Nat → Int32) (A : Nat → Bool) : Nat → Int32
  | 0 => 1000000
  | m + 1 => if A m = true then am_min (fT F A m) (F m) else fT F A m
theorem fb_cg {S S' : Nat → Int32} {A A' : Nat → Bool} : ∀ m, (∀ r, r < m → A' r = A r) → (∀ r, r < m → A r = true → S' r = S r) → fb S' A' m = fb S A m := by
  intro m
  induction m with
  | zero => intro _ _; rfl
  | succ m ih =>
    intro h1 h2
    have e := ih (fun r hr => h1 r (by omega)) (fun r hr => h2 r (by omega))
    show (if A' m = true then fb S' A' m &&& S' m else fb S' A' m) = if A m = true then fb S A m &&& S m else fb S A m
    rw [e, h1 m (by omega)]
    by_cases ha : A m = true
    · rw [if_pos ha, if_pos ha, h2 m (by omega) ha]
    · rw [if_neg ha, if_neg ha]
theorem fF_cg {S S' : Nat → Int32} {A A' : Nat → Bool} : ∀ m, (∀ r, r < m → A' r = A r) → (∀ r, r < m → A r = true → S' r = S r) → fF S' A' m = fF S A m := by
  intro m
  induction m with
  | zero => intro _ _; rfl
  | succ m ih =>
    intro h1 h2
    have e := ih (fun r hr => h1 r (by omega)) (fun r hr => h2 r (by omega))
    show (if A' m = true then am_max (fF S' A' m) (S' m) else fF S' A' m) = if A m = true then am_max (fF S A m) (S m) else fF S A m
    rw [e, h1 m (by omega)]
    by_cases ha : A m = true
    · rw [if_pos ha, if_pos ha, h2 m (by omega) ha]
    · rw [if_neg ha, if_neg ha]
theorem fT_cg {S S' : Nat → Int32} {A A' : Nat → Bool} : ∀ m, (∀ r, r < m → A' r = A r) → (∀ r, r < m → A r = true → S' r = S r) → fT S' A' m = fT S A m := by
  intro m
  induction m with
  | zero => intro _ _; rfl
  | succ m ih =>
    intro h1 h2
    have e := ih (fun r hr => h1 r (by omega)) (fun r hr => h2 r (by omega))
    show (if A' m = true then am_min (fT S' A' m) (S' m) else fT S' A' m) = if A m = true then am_min (fT S A m) (S m) else fT S A m
    rw [e, h1 m (by omega)]
    by_cases ha : A m = true
    · rw [if_pos ha, if_pos ha, h2 m (by omega) ha]
    · rw [if_neg ha, if_neg ha]
/-- which are asked for: of a HOUSE (x1 0), or of all others -/
def aC (I : Nat → Nat → Int32) (x0 x1 : Int32) (r : Nat) : Bool := if I (43 + r) 4 = 0 then false else if I (43 + r) 1 = x0 then (if 1 = x1 then false else true) else if 0 = x1 then false else true
def aQ (I : Nat → Nat → Int32) (x0 : Int32) (r : Nat) : Bool := if I (43 + r) 4 = 0 then false else if I (43 + r) 0 = 0 then (if I (43 + r) 3 = -1 then (if I (43 + r) 1 = x0 then false else true) else false) else false
def bk (I : Nat → Nat → Int32) : Nat := Int32.toNatClampNeg (I 35 2)
theorem Inv.book {I : Nat → Nat → Int32} (h : Inv I) : I 35 2 = Int32.ofInt (bk I : Int) ∧ bk I ≤ 40 := by
  obtain ⟨e, l⟩ := h.2.2.2.2.2.1.1.nat (by decide)
  exact ⟨e, by unfold bk; omega⟩
/-- the times of what fits have changed alone -/
def wb (I I' : Nat → Nat → Int32) : Prop := ∀ a k, ¬ (a = 35 ∧ 9 ≤ k) → I' a k = I a k
theorem w_12a {X : am_X} {d : Nat} {I : Nat → Nat → Int32} {J : Nat → Nat → Int64} {Q : Option Value → am_M → Prop} {x0 x1 : Int32} {b : Nat} (hb : b ≤ 40) (eb : I 35 2 = Int32.ofInt (b : Int)) (k : ∀ I' : Nat → Nat → Int32, wb I I' → I' 35 9 = fF (I 41) (aC I x0 x1) b → I' 35 10 = fT (I 42) (aC I x0 x1) b → Q (some (.int (if fT (I 42) (aC I x0 x1) b < fF (I 41) (aC I x0 x1) b then 0 else fb (I 40) (aC I x0 x1) b))) (am_N I' J)) : ∀ m : Nat, m ≤ b → ∀ I' : Nat → Nat → Int32, wb I I' → I' 35 9 = fF (I 41) (aC I x0 x1) m → I' 35 10 = fT (I 42) (aC I x0 x1) m → am_wp X (d + 1) 12 17 [.ref 35, .int x0, .int x1, .int (fb (I 40) (aC I x0 x1) m), .int (Int32.ofInt (m : Int))] [] (am_N I' J) Q := by
  refine am_down ?_ ?_
  · intro I' hs h1 h2
    have kk := k I' hs h1 h2
    refine c_12_17 ⟨fun _ => ⟨fun q => ?_, fun q => ?_⟩, fun q => absurd (by rw [hs 35 2 (by omega), eb]; exact Int32.le_refl _) q⟩
    · rw [h1, h2] at q
      rw [if_pos q] at kk
      exact kk
    · rw [h1, h2] at q
      rw [if_neg q] at kk
      exact kk
  · intro m hm ih I' hs h1 h2
    have ix : am_ix (Int32.ofInt (m : Int)) 40 := oi_ix (by omega) (by omega) (by omega)
    have no : aC I x0 x1 m = false → am_wp X (d + 1) 12 17 [.ref 35, .int x0, .int x1, .int (fb (I 40) (aC I x0 x1) m), .int (Int32.ofInt (m : Int) + 1)] [] (am_N I' J) Q := by
      intro q
      have q' : ¬ aC I x0 x1 m = true := by rw [q]; decide
      have e1 : fb (I 40) (aC I x0 x1) (m + 1) = fb (I 40) (aC I x0 x1) m := if_neg q'
      have e2 : fF (I 41) (aC I x0 x1) (m + 1) = fF (I 41) (aC I x0 x1) m := if_neg q'
      have e3 : fT (I 42) (aC I x0 x1) (m + 1) = fT (I 42) (aC I x0 x1) m := if_neg q'
      have := ih I' hs (by rw [e2]; exact h1) (by rw [e3]; exact h2)
      rw [e1] at this
      rw [oi_succ]
      exact this
    have yes : aC I x0 x1 m = true → am_wp X (d + 1) 12 17 [.ref 35, .int x0, .int x1, .int (fb (I 40) (aC I x0 x1) m &&& I' 40 m), .int (Int32.ofInt (m : Int) + 1)] [] (am_N (am_up (am_up I' 35 9 (am_max (I' 35 9) (I' 41 m))) 35 10 (am_min (I' 35 10) (I' 42 m))) J) Q := by
      intro q
      have e1 : fb (I 40) (aC I x0 x1) (m + 1) = fb (I 40) (aC I x0 x1) m &&& I 40 m := if_pos q
      have e2 : fF (I 41) (aC I x0 x1) (m + 1) = am_max (fF (I 41) (aC I x0 x1) m) (I 41 m) := if_pos q
      have e3 : fT (I 42) (aC I x0 x1) (m + 1) = am_min (fT (I 42) (aC I x0 x1) m) (I 42 m) := if_pos q
      have := ih (am_up (am_up I' 35 9 (am_max (I' 35 9) (I' 41 m))) 35 10 (am_min (I' 35 10) (I' 42 m))) (fun a j p => by rw [am_upv, if_neg (by omega), am_upv, if_neg (by omega)]; exact hs a j p) (by rw [am_upv, if_neg (by omega), am_upv, if_pos (by omega), e2, h1, hs 41 m (by omega)]) (by rw [am_upv, if_pos (by omega), e3, h2, hs 42 m (by omega)])
      rw [e1] at this
      rw [oi_succ, hs 40 m (by omega)]
      exact this
    refine c_12_17 ⟨fun q => absurd q (by rw [hs 35 2 (by omega), eb, oi_le (by omega) (by omega)]; omega), fun _ => ?_⟩
    rw [oi_cln (by omega)]
    refine ⟨ix, fun q => no ?_, fun q => ⟨ix, fun p => ⟨fun z => no ?_, fun z => ⟨ix, ix, ix, yes ?_⟩⟩, fun p => ⟨fun z => no ?_, fun z => ⟨ix, ix, ix, yes ?_⟩⟩⟩⟩
    · rw [hs (43 + m) 4 (by omega)] at q
      exact if_pos q
    · rw [hs (43 + m) 4 (by omega)] at q
      rw [hs (43 + m) 1 (by omega)] at p
      exact (if_neg q).trans ((if_pos p).trans (if_pos z))
    · rw [hs (43 + m) 4 (by omega)] at q
      rw [hs (43 + m) 1 (by omega)] at p
      exact (if_neg q).trans ((if_pos p).trans (if_neg z))
    · rw [hs (43 + m) 4 (by omega)] at q
      rw [hs (43 + m) 1 (by omega)] at p
      exact (if_neg q).trans ((if_neg p).trans (if_pos z))
    · rw [hs (43 + m) 4 (by omega)] at q
      rw [hs (43 + m) 1 (by omega)] at p
      exact (if_neg q).trans ((if_neg p).trans (if_neg z))
theorem w_12 {X : am_X} {d : Nat} {I : Nat → Nat → Int32} {J : Nat → Nat → Int64} {Q : Option Value → am_M → Prop} {x0 x1 : Int32} (hI : Inv I) (k : ∀ I' : Nat → Nat → Int32, wb I I' → I' 35 9 = fF (I 41) (aC I x0 x1) (bk I) → I' 35 10 = fT (I 42) (aC I x0 x1) (bk I) → Q (some (.int (if fT (I 42) (aC I x0 x1) (bk I) < fF (I 41) (aC I x0 x1) (bk I) then 0 else fb (I 40) (aC I x0 x1) (bk I)))) (am_N I' J)) : am_wp X (d + 1) 12 0 [.ref 35, .int x0, .int x1, am_uv, am_uv] [] (am_N I J) Q := by
  obtain ⟨eb, lb⟩ := hI.book
  have e : ∀ a j, ¬ (a = 35 ∧ 9 ≤ j) → am_up (am_up I 35 9 0) 35 10 1000000 a j = I a j := fun a j p => by rw [am_upv, if_neg (by omega), am_upv, if_neg (by omega)]
  exact c_12 (w_12a lb eb k 0 (by omega) _ e (by rw [am_upv, if_neg (by omega), am_upv, if_pos (by omega)]; rfl) (by rw [am_upv, if_pos (by omega)]; rfl))
theorem w_14 {X : am_X} {d : Nat} {I : Nat → Nat → Int32} {J : Nat → Nat → Int64} {Q : Option Value → am_M → Prop} {x0 : Int32} (hI : Inv I) (k : Q (some (.int (fb (I 40) (aQ I x0) (bk I)))) (am_N I J)) : am_wp X d 14 0 [.ref 35, .int x0, am_uv, am_uv, am_uv, am_uv] [] (am_N I J) Q := by
  obtain ⟨eb, lb⟩ := hI.book
  refine c_14 ?_
  refine am_down (N := bk I) (P := fun m => ∀ u3 u4 : Value, u3.category = 1 → u4.category = 1 → am_wp X d 14 5 [.ref 35, .int x0, .int (fb (I 40) (aQ I x0) m), .int (Int32.ofInt (m : Int)), u3, u4] [] (am_N I J) Q) ?_ ?_ 0 (by omega) _ _ rfl rfl
  · intro u3 u4 h3 h4
    exact c_14_5 h3 h4 ⟨fun _ => k, fun q => absurd (by rw [eb]; exact Int32.le_refl _) q⟩
  · intro m hm ih u3 u4 h3 h4
    have ix : am_ix (Int32.ofInt (m : Int)) 40 := oi_ix (by omega) (by omega) (by omega)
    have no : aQ I x0 m = false → ∀ u3 u4 : Value, u3.category = 1 → u4.category = 1 → am_wp X d 14 5 [.ref 35, .int x0, .int (fb (I 40) (aQ I x0) m), .int (Int32.ofInt (m : Int) + 1), u3, u4] [] (am_N I J) Q := by
      intro q u3 u4 h3 h4
      have e1 : fb (I 40) (aQ I x0) (m + 1) = fb (I 40) (aQ I x0) m := if_neg (by rw [q]; decide)
      have := ih u3 u4 h3 h4
      rw [e1] at this
      rw [oi_succ]
      exact this
    refine c_14_5 h3 h4 ⟨fun q => absurd q (by rw [eb, oi_le (by omega) (by omega)]; omega), fun _ => ?_⟩
    rw [oi_cln (by omega)]
    refine ⟨ix, fun q => no (if_pos q) _ _ rfl rfl, fun q => ⟨fun p => ⟨fun z => ⟨fun y => no ((if_neg q).trans ((if_pos p).trans ((if_pos z).trans (if_pos y)))) _ _ rfl rfl, fun y => ⟨ix, ?_⟩⟩, fun z => no ((if_neg q).trans ((if_pos p).trans (if_neg z))) _ _ rfl rfl⟩, fun p => no ((if_neg q).trans (if_neg p)) _ _ rfl rfl⟩⟩
    have e1 : fb (I 40) (aQ I x0) (m + 1) = fb (I 40) (aQ I x0) m &&& I 40 m := if_pos ((if_neg q).trans ((if_pos p).trans ((if_pos z).trans (if_neg y))))
    have := ih (.ref (43 + m)) (.int 1) rfl rfl
    rw [e1] at this
    rw [oi_succ]
    exact this
def v12 (I : Nat → Nat → Int32) (x0 x1 : Int32) : Int32 := if fT (I 42) (aC I x0 x1) (bk I) < fF (I 41) (aC I x0 x1) (bk I) then 0 else fb (I 40) (aC I x0 x1) (bk I)
def w12 (I I' : Nat → Nat → Int32) (x0 x1 : Int32) : Prop := wb I I' ∧ I' 35 9 = fF (I 41) (aC I x0 x1) (bk I) ∧ I' 35 10 = fT (I 42) (aC I x0 x1) (bk I)
theorem c_13 {X : am_X} {d : Nat} {I : Nat → Nat → Int32} {J : Nat → Nat → Int64} {Q : Option Value → am_M → Prop} {x0 : Int32} (k : am_wp X (d + 5) 13 2 [.ref 35, .int x0, .int 0] [] (am_N I J) Q) : am_wp X (d + 5) 13 0 [.ref 35, .int x0, am_uv] [] (am_N I J) Q := s13_0 (s13_1 rfl (k))
theorem c_13_2 {X : am_X} {d : Nat} {I : Nat → Nat → Int32} {J : Nat → Nat → Int64} {Q : Option Value → am_M → Prop} {x0 m : Int32} (k : ((576 ≤ m → Q (some (.int 0)) (am_N I J)) ∧ (¬ 576 ≤ m → ((Inv I ∧ Wf I) ∧ ∀ (I3037 : Nat → Nat → Int32), We I I3037 m → (Inv I3037 ∧ ∀ (I3038 : Nat → Nat → Int32), w12 I3037 I3038 x0 0 → (Inv I3038 ∧ ((((v12 I3037 x0 0) &&& (fb (I3038 40) (aQ I3038 x0) (bk I3038))) = 0 → am_wp X (d + 5) 13 2 [.ref 35, .int x0, .int (m + 1)] [] (am_N I3038 J) Q) ∧ (¬ ((v12 I3037 x0 0) &&& (fb (I3038 40) (aQ I3038 x0) (bk I3038))) = 0 → Q (some (.int 1)) (am_N I3038 J))))))))) : am_wp X (d + 5) 13 2 [.ref 35, .int x0, .int m] [] (am_N I J) Q := s13_2 (s13_3 (s13_6 (fun h3036 => have k := k.1 h3036; s13_37 (s13_38 (Or.inl rfl) (k))) (fun h3036 => have k := k.2 h3036; s13_9 (s13_10 (s13_11 k0_35 (Nat.le_of_ble_eq_true rfl) (w_6 k.1.1 k.1.2 (fun I3037 h1 => have k := k.2 I3037 h1; am_aft0 (s13_14 (s13_15 (s13_16 (s13_17 k0_35 (Nat.le_of_ble_eq_true rfl) (w_12 k.1 (fun I3038 h1 h2 h3 => have k := k.2 I3038 ⟨h1, h2, h3⟩; am_aft (s13_20 (s13_21 (s13_22 k0_35 (Nat.le_of_ble_eq_true rfl) (w_14 k.1 (have k := k.2; am_aft (s13_25 (s13_26 (fun h3039 => have k := k.1 h3039; s13_31 rfl (s13_34 (k))) (fun h3039 => have k := k.2 h3039; s13_29 (s13_30 (Or.inr rfl) (k)))))))))))))))))))))))
theorem wb.wx {I I' : Nat → Nat → Int32} (h : wb I I') : wx I I' := fun a k _ hj => h a k hj
theorem Inv.qh {I : Nat → Nat → Int32} (h : Inv I) {r : Nat} (hr : r < 40) : q_h I r < 8 := am_ix_lt (h.ixRH hr)
theorem wx.qh {I I' : Nat → Nat → Int32} (h : wx I I') (r : Nat) : q_h I' r = q_h I r := by
  unfold q_h
  rw [h (43 + r) 1 (by omega) (by omega)]
theorem wx.far {I I' : Nat → Nat → Int32} (h : wx I I') {c : Int32} {q : Nat} (hq : q < 8) : q_far I' c q = q_far I c q ∧ q_way I' c q = q_way I c q := by
  unfold q_far q_way
  rw [h (3 + 4 * q) 1 (by omega) (by omega), h (3 + 4 * q) 2 (by omega) (by omega)]
  exact ⟨rfl, rfl⟩
theorem wx.so {I I' : Nat → Nat → Int32} (h : wx I I') (hI : Inv I) {r : Nat} (hr : r < 40) (c : Int32) : q_so I' c r = q_so I c r ∧ q_from I' c r = q_from I c r ∧ q_till I' c r = q_till I c r := by
  have q8 := hI.qh hr
  obtain ⟨f1, f2⟩ := h.far (c := c) q8
  unfold q_so q_from q_till kf kt
  rw [h.qh, f1, f2, h (43 + r) 0 (by omega) (by omega), h (43 + r) 3 (by omega) (by omega), h (3 + 4 * q_h I r) 5 (by omega) (by omega), h (3 + 4 * q_h I r) 6 (by omega) (by omega), kb_cg (I := I) (I' := I') (fun k => h (43 + r) k (by omega) (by omega)) (fun k => h (3 + 4 * q_h I r) k (by omega) (by omega)) (fun k => h (3 + 4 * q_h I r + 1) k (by omega) (by omega)) (fun k => h (3 + 4 * q_h I r + 2) k (by omega) (by omega))]
  exact ⟨rfl, rfl, rfl⟩
theorem wx.book {I I' : Nat → Nat → Int32} (h : wx I I') : bk I' = bk I := by
  unfold bk
  rw [h 35 2 (by omega) (by omega)]
theorem wx.wf {I I' : Nat → Nat → Int32} (h : wx I I') (hw : Wf I) : Wf I' := by
  intro r hr hl
  rw [h 35 2 (by omega) (by omega)] at hl
  exact (hw r hr hl).cg hr h
theorem wx.eC {I I' : Nat → Nat → Int32} (h : wx I I') (x0 x1 : Int32) (r : Nat) : aC I' x0 x1 r = aC I x0 x1 r := by
  unfold aC
  rw [h (43 + r) 4 (by omega) (by omega), h (43 + r) 1 (by omega) (by omega)]
theorem wx.eQ {I I' : Nat → Nat → Int32} (h : wx I I') (x0 : Int32) (r : Nat) : aQ I' x0 r = aQ I x0 r := by
  unfold aQ
  rw [h (43 + r) 4 (by omega) (by omega), h (43 + r) 0 (by omega) (by omega), h (43 + r) 3 (by omega) (by omega), h (43 + r) 1 (by omega) (by omega)]
theorem aC_on {I : Nat → Nat → Int32} {x0 x1 : Int32} {r : Nat} (h : aC I x0 x1 r = true) : ¬ I (43 + r) 4 = 0 := by
  intro q
  unfold aC at h
  rw [if_pos q] at h
  cases h
theorem aQ_on {I : Nat → Nat → Int32} {x0 : Int32} {r : Nat} (h : aQ I x0 r = true) : ¬ I (43 + r) 4 = 0 := by
  intro q
  unfold aQ at h
  rw [if_pos q] at h
  cases h
theorem Inv.lb {I : Nat → Nat → Int32} (h : Inv I) {r : Nat} (hr : r < bk I) : r < 40 ∧ Int32.ofInt (r : Int) < I 35 2 := by
  obtain ⟨e, l⟩ := h.book
  refine ⟨by omega, ?_⟩
  rw [e, oi_lt (by omega) (by omega)]
  omega
/-- the bits of a cell that fit what is asked for -/
def q_fb (I : Nat → Nat → Int32) (c : Int32) (A : Nat → Bool) : Int32 := fb (q_so I c) A (bk I)
def q_ff (I : Nat → Nat → Int32) (c : Int32) (A : Nat → Bool) : Int32 := fF (q_from I c) A (bk I)
def q_ft (I : Nat → Nat → Int32) (c : Int32) (A : Nat → Bool) : Int32 := fT (q_till I c) A (bk I)
def q_bits (I : Nat → Nat → Int32) (c : Int32) (A : Nat → Bool) : Int32 := if q_ft I c A < q_ff I c A then 0 else q_fb I c A
theorem We.f {I I' : Nat → Nat → Int32} {c : Int32} (h : We I I' c) (hI : Inv I) {A A' : Nat → Bool} (ha : ∀ r, A' r = A r) (ho : ∀ r, A r = true → ¬ I (43 + r) 4 = 0) : fb (I' 40) A' (bk I) = q_fb I c A ∧ fF (I' 41) A' (bk I) = q_ff I c A ∧ fT (I' 42) A' (bk I) = q_ft I c A := by
  have e : ∀ r, r < bk I → A r = true → I' 40 r = q_so I c r ∧ I' 41 r = q_from I c r ∧ I' 42 r = q_till I c r := fun r hr h1 => h.2 r (hI.lb hr).1 (hI.lb hr).2 (ho r h1)
  exact ⟨fb_cg _ (fun r _ => ha r) (fun r hr h1 => (e r hr h1).1), fF_cg _ (fun r _ => ha r) (fun r hr h1 => (e r hr h1).2.1), fT_cg _ (fun r _ => ha r) (fun r hr h1 => (e r hr h1).2.2)⟩
theorem We.e12 {I I' : Nat → Nat → Int32} {c : Int32} (h : We I I' c) (hI : Inv I) (x0 x1 : Int32) : v12 I' x0 x1 = q_bits I c (aC I x0 x1) := by
  obtain ⟨e1, e2, e3⟩ := h.f hI (A := aC I x0 x1) (A' := aC I' x0 x1) (fun r => h.1.wx.eC x0 x1 r) (fun r hr => aC_on hr)
  unfold v12 q_bits
  rw [h.1.wx.book, e1, e2, e3]
def qz (I : Nat → Nat → Int32) (x0 : Int32) (c : Nat) : Int32 := q_bits I (Int32.ofInt (c : Int)) (aC I x0 0) &&& q_fb I (Int32.ofInt (c : Int)) (aQ I x0)
theorem wx.fs {I I' : Nat → Nat → Int32} (h : wx I I') (hI : Inv I) {c : Int32} {A A' : Nat → Bool} (ha : ∀ r, A' r = A r) : q_fb I' c A' = q_fb I c A ∧ q_ff I' c A' = q_ff I c A ∧ q_ft I' c A' = q_ft I c A ∧ q_bits I' c A' = q_bits I c A := by
  have e : ∀ r, r < bk I → q_so I' c r = q_so I c r ∧ q_from I' c r = q_from I c r ∧ q_till I' c r = q_till I c r := fun r hr => h.so hI (hI.lb hr).1 c
  have e1 : q_fb I' c A' = q_fb I c A := by
    unfold q_fb
    rw [h.book]
    exact fb_cg _ (fun r _ => ha r) (fun r hr _ => (e r hr).1)
  have e2 : q_ff I' c A' = q_ff I c A := by
    unfold q_ff
    rw [h.book]
    exact fF_cg _ (fun r _ => ha r) (fun r hr _ => (e r hr).2.1)
  have e3 : q_ft I' c A' = q_ft I c A := by
    unfold q_ft
    rw [h.book]
    exact fT_cg _ (fun r _ => ha r) (fun r hr _ => (e r hr).2.2)
  refine ⟨e1, e2, e3, ?_⟩
  unfold q_bits
  rw [e1, e2, e3]
theorem w_13 {X : am_X} {d : Nat} {I : Nat → Nat → Int32} {J : Nat → Nat → Int64} {Q : Option Value → am_M → Prop} {x0 : Int32} (hI : Inv I) (hw : Wf I) (k1 : (∃ c : Nat, c < 576 ∧ ¬ qz I x0 c = 0) → ∀ I' : Nat → Nat → Int32, wx I I' → Q (some (.int 1)) (am_N I' J)) (k0 : (∀ c : Nat, c < 576 → qz I x0 c = 0) → ∀ I' : Nat → Nat → Int32, wx I I' → Q (some (.int 0)) (am_N I' J)) : am_wp X (d + 5) 13 0 [.ref 35, .int x0, am_uv] [] (am_N I J) Q := by
  refine c_13 ?_
  refine am_down (N := 576) (P := fun m => (∀ c : Nat, c < m → qz I x0 c = 0) → ∀ I' : Nat → Nat → Int32, wx I I' → am_wp X (d + 5) 13 2 [.ref 35, .int x0, .int (Int32.ofInt (m : Int))] [] (am_N I' J) Q) ?_ ?_ 0 (by omega) (fun c hc => absurd hc (by omega)) I wx.rf
  · intro hz I' hs
    exact c_13_2 ⟨fun _ => k0 hz I' hs, fun q => absurd (by decide) q⟩
  · intro m hm ih hz I' hs
    refine c_13_2 ⟨fun q => absurd q (by rw [show (576 : Int32) = Int32.ofInt 576 from rfl, oi_le (by omega) (by omega)]; omega), fun _ => ⟨⟨hI.sm hs.sm, hs.wf hw⟩, fun I1 h1 => ⟨hI.sm (hs.tr h1.1.wx).sm, fun I2 h2 => ?_⟩⟩⟩
    have s1 : wx I I1 := hs.tr h1.1.wx
    have s2 : wx I1 I2 := h2.1.wx
    have hI' := hI.sm hs.sm
    have e : (v12 I1 x0 0 &&& fb (I2 40) (aQ I2 x0) (bk I2)) = qz I x0 m := by
      have a1 : v12 I1 x0 0 = q_bits I (Int32.ofInt (m : Int)) (aC I x0 0) := by
        rw [h1.e12 hI' x0 0]
        exact (hs.fs hI (fun r => hs.eC x0 0 r)).2.2.2
      have a2 : fb (I2 40) (aQ I2 x0) (bk I2) = q_fb I (Int32.ofInt (m : Int)) (aQ I x0) := by
        have b1 : I2 40 = I1 40 := funext fun r => h2.1 40 r (by omega)
        have b2 : bk I2 = bk I' := (s2.book).trans h1.1.wx.book
        rw [b1, b2, (h1.f hI' (A := aQ I' x0) (A' := aQ I2 x0) (fun r => (s2.eQ x0 r).trans (h1.1.wx.eQ x0 r)) (fun r hr => aQ_on hr)).1]
        exact (hs.fs hI (fun r => hs.eQ x0 r)).1
      rw [a1, a2]
      rfl
    rw [e]
    refine ⟨hI.sm (s1.tr s2).sm, fun q => ?_, fun q => k1 ⟨m, hm, q⟩ I2 (s1.tr s2)⟩
    rw [oi_succ]
    refine ih (fun c hc => ?_) I2 (s1.tr s2)
    by_cases ec : c = m
    · rw [ec]
      exact q
    · exact hz c (by omega)
