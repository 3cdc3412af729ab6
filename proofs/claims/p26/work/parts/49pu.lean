theorem c_36 {X : am_X} {d : Nat} {I : Nat → Nat → Int32} {J : Nat → Nat → Int64} {Q : Option Value → am_M → Prop} (k : (((I 83 5) = 0 → am_wp X (d + 5) 36 38 [.ref 83, .int 0] [] (am_N (am_fil (am_fil (am_up (am_up I 83 5 1) 83 4 0) 85 6 2147483647) 86 6 (-2147483648)) J) Q) ∧ (¬ (I 83 5) = 0 → Q none (am_N I J)))) : am_wp X (d + 5) 36 0 [.ref 83, am_uv] [] (am_N I J) Q := s36_0 (s36_1 k0_83 (s36_4 (fun h3173 => have k := k.1 h3173; s36_8 (s36_9 (s36_10 k0_83 (Or.inr rfl) (s36_13 (s36_14 (s36_15 k0_83 (s36_18 (s36_19 k0_83 p0_83_2 (s36_22 (s36_24 (Nat.le_of_ble_eq_true rfl) (w_fill k0_85 (by decide) (am_aft0 (s36_27 (s36_28 k0_83 p0_83_3 (s36_31 (s36_33 (Nat.le_of_ble_eq_true rfl) (w_fill k0_86 (by decide) (am_aft0 (s36_36 (s36_37 rfl (k))))))))))))))))))))) (fun h3173 => have k := k.2 h3173; s36_7 (k))))
theorem c_36_38 {X : am_X} {d : Nat} {I : Nat → Nat → Int32} {J : Nat → Nat → Int64} {Q : Option Value → am_M → Prop} {m : Int32} (k : ((576 ≤ m → Q none (am_N I J)) ∧ (¬ 576 ≤ m → ((Inv I ∧ Wf I) ∧ ∀ (I3175 : Nat → Nat → Int32), We I I3175 m → (Inv I3175 ∧ ∀ (I3176 : Nat → Nat → Int32), w12 I3175 I3176 (-1) 1 → (am_ix m 576 ∧ (am_ix m 576 ∧ ((((am_up I3176 84 (Int32.toNatClampNeg m) (v12 I3175 (-1) 1)) 84 (Int32.toNatClampNeg m)) = 0 → am_wp X (d + 5) 36 38 [.ref 83, .int (m + 1)] [] (am_N (am_up I3176 84 (Int32.toNatClampNeg m) (v12 I3175 (-1) 1)) J) Q) ∧ (¬ ((am_up I3176 84 (Int32.toNatClampNeg m) (v12 I3175 (-1) 1)) 84 (Int32.toNatClampNeg m)) = 0 → (am_ix m 576 ∧ (am_ix m 576 ∧ ∀ (I3181 : Nat → Nat → Int32), w37 (am_up (am_up I3176 84 (Int32.toNatClampNeg m) (v12 I3175 (-1) 1)) 83 4 ((I3176 83 4) + (v_bitCount ((am_up I3176 84 (Int32.toNatClampNeg m) (v12 I3175 (-1) 1)) 84 (Int32.toNatClampNeg m))))) I3181 m → am_wp X (d + 5) 36 38 [.ref 83, .int (m + 1)] [] (am_N I3181 J) Q))))))))))) : am_wp X (d + 5) 36 38 [.ref 83, .int m] [] (am_N I J) Q := s36_38 (s36_39 (s36_42 (fun h3174 => have k := k.1 h3174; s36_106 (k)) (fun h3174 => have k := k.2 h3174; s36_45 (s36_46 k0_83 p0_83_0 (s36_49 (s36_50 k0_35 (Nat.le_of_ble_eq_true rfl) (w_6 k.1.1 k.1.2 (fun I3175 h1 => have k := k.2 I3175 h1; am_aft0 (s36_53 (s36_54 k0_83 p0_83_1 (s36_57 (s36_58 (s36_59 k0_83 p0_83_0 (s36_62 (s36_63 (s36_64 k0_35 (Nat.le_of_ble_eq_true rfl) (w_12 k.1 (fun I3176 h1 h2 h3 => have k := k.2 I3176 ⟨h1, h2, h3⟩; am_aft (have b3177 := k.1; have k := k.2; s36_67 k0_84 b3177 (s36_68 (s36_69 k0_83 p0_83_1 (s36_72 (have b3178 := k.1; have k := k.2; s36_73 k0_84 b3178 (s36_74 (fun h3179 => have k := k.1 h3179; s36_100 rfl (s36_103 (k))) (fun h3179 => have k := k.2 h3179; s36_77 (s36_78 rfl (s36_79 k0_83 (s36_82 (s36_83 k0_83 p0_83_1 (s36_86 (have b3180 := k.1; have k := k.2; s36_87 k0_84 b3180 (s36_88 (Nat.le_of_ble_eq_true rfl) (w_bitCount (am_aft (s36_91 (s36_92 k0_83 (s36_95 (s36_96 (s36_97 k0_83 (Nat.le_of_ble_eq_true rfl) (w_37 k.1 (fun I3181 h1 => have k := k.2 I3181 h1; am_aft0 (s36_100 rfl (s36_103 (k))))))))))))))))))))))))))))))))))))))))))))
def wy (I I' : Nat → Nat → Int32) : Prop := ∀ a k, ¬ (37 ≤ a ∧ a ≤ 42) → ¬ (a = 35 ∧ 9 ≤ k) → ¬ (83 ≤ a ∧ a ≤ 86) → I' a k = I a k
theorem wy.rf {I : Nat → Nat → Int32} : wy I I := fun _ _ _ _ _ => rfl
theorem wy.vw {I I' : Nat → Nat → Int32} (h : wy I I') : vw I I' := fun a k q => h a k (by omega) (by omega) (by omega)
theorem wy.sm {I I' : Nat → Nat → Int32} (h : wy I I') : sm I I' := fun a k q => h a k (fun p => q (by unfold Sc; omega)) (fun p => q (by unfold Sc; omega)) (fun p => q (by unfold Sc; omega))
def slo (I : Nat → Nat → Int32) (c w : Nat) : Int32 := if w < 4 then v_partOfGuess (Int32.ofInt (c : Int)) (v_ntz (fbit I c)) (Int32.ofInt (w : Int)) else if w = 4 then (if fbit I c &&& 5592405 = 0 then 1 else 0) else q_ff I (Int32.ofInt (c : Int)) (aC I (-1) 1)
def shi (I : Nat → Nat → Int32) (c w : Nat) : Int32 := if w < 4 then v_partOfGuess (Int32.ofInt (c : Int)) (31 - v_nlz (fbit I c)) (Int32.ofInt (w : Int)) else if w = 4 then (if fbit I c &&& 11184810 = 0 then 0 else 1) else q_ft I (Int32.ofInt (c : Int)) (aC I (-1) 1)
def mlo (I : Nat → Nat → Int32) (w : Nat) : Nat → Int32
  | 0 => 2147483647
  | m + 1 => if fbit I m = 0 then mlo I w m else am_min (mlo I w m) (slo I m w)
def mhi (I : Nat → Nat → Int32) (w : Nat) : Nat → Int32
  | 0 => -2147483648
  | m + 1 => if fbit I m = 0 then mhi I w m else am_max (mhi I w m) (shi I m w)
theorem pcn_0 : ∀ k, pcn 0 k = 0 := by
  intro k
  induction k with
  | zero => rfl
  | succ k ih =>
    show pcn 0 k + (if tb 0 k = true then 1 else 0) = 0
    rw [ih, tb_0, if_neg (by decide)]
def w36 (I I' : Nat → Nat → Int32) : Prop := wy I I' ∧ ¬ I' 83 5 = 0 ∧ (∀ c, c < 576 → I' 84 c = fbit I c) ∧ I' 83 4 = Int32.ofInt (fcn I 576 : Int) ∧ ∀ w, w < 6 → I' 85 w = mlo I w 576 ∧ I' 86 w = mhi I w 576
theorem w_36 {X : am_X} {d : Nat} {I : Nat → Nat → Int32} {J : Nat → Nat → Int64} {Q : Option Value → am_M → Prop} (hI : Inv I) (hw : Wf I) (k1 : ¬ I 83 5 = 0 → Q none (am_N I J)) (k0 : I 83 5 = 0 → ∀ I' : Nat → Nat → Int32, w36 I I' → Q none (am_N I' J)) : am_wp X (d + 5) 36 0 [.ref 83, am_uv] [] (am_N I J) Q := by
  refine c_36 ⟨fun h5 => ?_, k1⟩
  refine am_down (N := 576) (P := fun m => ∀ (I' : Nat → Nat → Int32) (u2 : Value), u2.category = 1 → wy I I' → ¬ I' 83 5 = 0 → (∀ c, c < m → I' 84 c = fbit I c) → I' 83 4 = Int32.ofInt (fcn I m : Int) → (∀ w, w < 6 → I' 85 w = mlo I w m ∧ I' 86 w = mhi I w m) → am_wp X (d + 5) 36 38 [.ref 83, .int (Int32.ofInt (m : Int))] [] (am_N I' J) Q) ?_ ?_ 0 (by omega) _ am_uv rfl (fun a j p q r => ?_) ?_ (fun c hc => absurd hc (by omega)) ?_ (fun w hw => ⟨?_, ?_⟩)
  · intro I' u2 h2 hs hk h84 h4 hsp
    exact c_36_38 ⟨fun _ => k0 h5 I' ⟨hs, hk, h84, h4, hsp⟩, fun q => absurd (by decide) q⟩
  · intro m hm ih I' u2 h2 hs hk h84 h4 hsp
    have ix : am_ix (Int32.ofInt (m : Int)) 576 := oi_ix (by omega) (by omega) (by omega)
    have hI' : Inv I' := hI.sm hs.sm
    have hw' : Wf I' := hs.vw.wf hw
    have sq := hs.vw.q hI
    refine c_36_38 ⟨fun q => absurd q (by rw [show (576 : Int32) = Int32.ofInt 576 from rfl, oi_le (by omega) (by omega)]; omega), fun _ => ⟨⟨hI', hw'⟩, fun I1 h1 => ⟨hI'.sm h1.1.sm, fun I2 h2' => ⟨ix, ix, ?_⟩⟩⟩⟩
    have eb : v12 I1 (-1) 1 = fbit I m := (h1.e12 hI' (-1) 1).trans (sq.bit m)
    obtain ⟨f1, f2, f3⟩ := h1.f hI' (A := aC I' (-1) 1) (A' := aC I1 (-1) 1) (fun r => h1.1.wx.eC (-1) 1 r) (fun r hr => aC_on hr)
    have e9 : I2 35 9 = q_ff I (Int32.ofInt (m : Int)) (aC I (-1) 1) := by
      rw [h2'.2.1, h1.1.wx.book, f2]
      exact (sq.f (sq.eC (-1) 1) _).2.1
    have e10 : I2 35 10 = q_ft I (Int32.ofInt (m : Int)) (aC I (-1) 1) := by
      rw [h2'.2.2, h1.1.wx.book, f3]
      exact (sq.f (sq.eC (-1) 1) _).2.2.1
    have fr : ∀ a k, ¬ (37 ≤ a ∧ a ≤ 42) → ¬ (a = 35 ∧ 9 ≤ k) → I2 a k = I' a k := fun a k p q => (h2'.1 a k q).trans (h1.1 a k p)
    rw [eb, oi_cln (by omega), am_upv I2 84 m (fbit I m) 84 m, if_pos ⟨rfl, rfl⟩, oi_succ]
    have c84 : ∀ c, c < m + 1 → am_up I2 84 m (fbit I m) 84 c = fbit I c := by
      intro c hc
      rw [am_upv]
      by_cases e : c = m
      · rw [if_pos ⟨rfl, e⟩, e]
      · rw [if_neg (by omega), fr 84 c (by omega) (by omega)]
        exact h84 c (by omega)
    refine ⟨fun z => ?_, fun z => ⟨ix, ix, fun I3 h3 => ?_⟩⟩
    · refine ih _ u2 h2 (fun a j p q r => ?_) ?_ c84 ?_ (fun w hw => ?_)
      · rw [am_upv, if_neg (by omega), fr a j p q]
        exact hs a j p q r
      · rw [am_upv, if_neg (by omega), fr 83 5 (by omega) (by omega)]
        exact hk
      · rw [am_upv, if_neg (by omega), fr 83 4 (by omega) (by omega), h4]
        show _ = Int32.ofInt ((fcn I m + pcn (fbit I m) 24 : Nat) : Int)
        rw [z, pcn_0]
        rfl
      · have m1 : mlo I w (m + 1) = mlo I w m := if_pos z
        have m2 : mhi I w (m + 1) = mhi I w m := if_pos z
        rw [m1, m2, am_upv, if_neg (by omega), am_upv, if_neg (by omega), fr 85 w (by omega) (by omega), fr 86 w (by omega) (by omega)]
        exact hsp w hw
    · obtain ⟨g1, g2⟩ := h3
      have g0 : ∀ a j, ¬ (a = 84 ∧ j = m) → ¬ (a = 83 ∧ j = 4) → ¬ a = 85 → ¬ a = 86 → I3 a j = I2 a j := by
        intro a j p q r s
        rw [g1 a j r s, am_upv, if_neg (by omega), am_upv, if_neg (by omega)]
      refine ih I3 u2 h2 (fun a j p q r => ?_) ?_ (fun c hc => ?_) ?_ (fun w hw => ?_)
      · rw [g0 a j (by omega) (by omega) (by omega) (by omega), fr a j p q]
        exact hs a j p q r
      · rw [g0 83 5 (by omega) (by omega) (by omega) (by omega), fr 83 5 (by omega) (by omega)]
        exact hk
      · rw [g1 84 c (by omega) (by omega), am_upv, if_neg (by omega)]
        exact c84 c hc
      · rw [g1 83 4 (by omega) (by omega), am_upv, if_pos ⟨rfl, rfl⟩, fr 83 4 (by omega) (by omega), h4, bitCount_24 M24.ft, oi_add]
        rfl
      · have m1 : mlo I w (m + 1) = am_min (mlo I w m) (slo I m w) := if_neg z
        have m2 : mhi I w (m + 1) = am_max (mhi I w m) (shi I m w) := if_neg z
        have r1 : s_lo (am_up (am_up I2 84 m (fbit I m)) 83 4 (I2 83 4 + v_bitCount (fbit I m))) (Int32.ofInt (m : Int)) (fbit I m) w = slo I m w := by
          have u9 : am_up (am_up I2 84 m (fbit I m)) 83 4 (I2 83 4 + v_bitCount (fbit I m)) 35 9 = q_ff I (Int32.ofInt (m : Int)) (aC I (-1) 1) := by rw [am_upv, if_neg (by omega), am_upv, if_neg (by omega), e9]
          unfold s_lo slo
          rw [u9]
        have r2 : s_hi (am_up (am_up I2 84 m (fbit I m)) 83 4 (I2 83 4 + v_bitCount (fbit I m))) (Int32.ofInt (m : Int)) (fbit I m) w = shi I m w := by
          have u9 : am_up (am_up I2 84 m (fbit I m)) 83 4 (I2 83 4 + v_bitCount (fbit I m)) 35 10 = q_ft I (Int32.ofInt (m : Int)) (aC I (-1) 1) := by rw [am_upv, if_neg (by omega), am_upv, if_neg (by omega), e10]
          unfold s_hi shi
          rw [u9]
        obtain ⟨p1, p2⟩ := g2 w hw
        have u84 : am_up (am_up I2 84 m (fbit I m)) 83 4 (I2 83 4 + v_bitCount (fbit I m)) 84 (Int32.toNatClampNeg (Int32.ofInt (m : Int))) = fbit I m := by
          rw [oi_cln (by omega), am_upv, if_neg (by omega), am_upv, if_pos ⟨rfl, rfl⟩]
        rw [u84, r1, am_upv, if_neg (by omega), am_upv, if_neg (by omega), fr 85 w (by omega) (by omega), (hsp w hw).1] at p1
        rw [u84, r2, am_upv, if_neg (by omega), am_upv, if_neg (by omega), fr 86 w (by omega) (by omega), (hsp w hw).2] at p2
        rw [m1, m2]
        exact ⟨p1, p2⟩
  · rw [am_filv, if_neg (by omega), am_filv, if_neg (by omega), am_upv, if_neg (by omega), am_upv, if_neg (by omega)]
  · rw [am_filv, if_neg (by omega), am_filv, if_neg (by omega), am_upv, if_neg (by omega), am_upv, if_pos (by omega)]
    decide
  · rw [am_filv, if_neg (by omega), am_filv, if_neg (by omega), am_upv, if_pos (by omega)]
    rfl
  · rw [am_filv, if_neg (by omega), am_filv, if_pos (by omega)]
    rfl
  · rw [am_filv, if_pos (by omega)]
    rfl
/-- behind refresh -/
def fk (I I' : Nat → Nat → Int32) : Prop := (wy I I' ∧ Cf I') ∧ (∀ c, c < 576 → I' 84 c = fbit I c) ∧ I' 83 4 = Int32.ofInt (fcn I 576 : Int)
theorem w_36f {X : am_X} {d : Nat} {I : Nat → Nat → Int32} {J : Nat → Nat → Int64} {Q : Option Value → am_M → Prop} (hI : Inv I) (hw : Wf I) (hc : Cf I) (k : ∀ I' : Nat → Nat → Int32, fk I I' → Q none (am_N I' J)) : am_wp X (d + 5) 36 0 [.ref 83, am_uv] [] (am_N I J) Q := by
  refine w_36 hI hw (fun q => k I ⟨⟨wy.rf, hc⟩, hc q⟩) (fun _ I' h => ?_)
  obtain ⟨h1, h2, h3, h4, h5⟩ := h
  have sq := h1.vw.q hI
  exact k I' ⟨⟨h1, fun _ => ⟨fun c hc => by rw [h3 c hc, sq.bit], by rw [h4, sq.cn]⟩⟩, h3, h4⟩
