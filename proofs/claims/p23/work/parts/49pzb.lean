theorem c_202 {X : am_X} {d : Nat} {I : Nat → Nat → Int32} {J : Nat → Nat → Int64} {Q : Option Value → am_M → Prop} {x0 : Int32} {x1 : Int32} (k : (am_ix x0 40 ∧ (((I 132 (Int32.toNatClampNeg x0)) = 0 → ((am_ix x0 40 ∧ p191 I (Int32.toNatClampNeg x0)) ∧ (((bz (rr_is I (Int32.toNatClampNeg x0))) = 0 → Q (some (.int 1)) (am_N I J)) ∧ (¬ (bz (rr_is I (Int32.toNatClampNeg x0))) = 0 → (am_ix x0 40 ∧ (((I 128 (Int32.toNatClampNeg x0)) = 2 → ((am_ix x0 40 ∧ am_ix (I 129 (Int32.toNatClampNeg x0)) 8) ∧ ((x1 < (rr_fr I (Int32.toNatClampNeg x0)) → Q (some (.int 1)) (am_N I J)) ∧ (¬ x1 < (rr_fr I (Int32.toNatClampNeg x0)) → ((am_ix x0 40 ∧ am_ix (I 129 (Int32.toNatClampNeg x0)) 8) ∧ (((rr_tl I (Int32.toNatClampNeg x0)) < x1 → Q (some (.int 1)) (am_N I J)) ∧ (¬ (rr_tl I (Int32.toNatClampNeg x0)) < x1 → Q (some (.int 0)) (am_N I J)))))))) ∧ (¬ (I 128 (Int32.toNatClampNeg x0)) = 2 → Q (some (.int 0)) (am_N I J)))))))) ∧ (¬ (I 132 (Int32.toNatClampNeg x0)) = 0 → Q (some (.int 0)) (am_N I J))))) : am_wp X (d + 3) 202 0 [.ref 105, .int x0, .int x1] [] (am_N I J) Q := s202_0 (s202_1 k0_105 p0_105_31 (s202_4 (have b3232 := k.1; have k := k.2; s202_5 k0_132 b3232 (s202_6 (fun h3233 => have k := k.1 h3233; s202_9 (s202_10 (s202_11 k0_105 (Nat.le_of_ble_eq_true rfl) (w_191 k.1.1 k.1.2 (have k := k.2; am_aft (s202_14 (fun h3234 => have k := k.1 h3234; s202_36 (s202_37 (s202_41 (Or.inr rfl) (k)))) (fun h3234 => have k := k.2 h3234; s202_17 (s202_18 k0_105 p0_105_27 (s202_21 (have b3235 := k.1; have k := k.2; s202_22 k0_128 b3235 (s202_23 (s202_24 (fun h3236 => have k := k.1 h3236; s202_27 (s202_28 (s202_29 (s202_30 k0_105 (Nat.le_of_ble_eq_true rfl) (s201_0 (s201_1 (s201_2 k0_105 (Nat.le_of_ble_eq_true rfl) (w_192 k.1.1 k.1.2 (have k := k.2; am_aft (s201_5 (s201_6 (fun h3237 => have k := k.1 h3237; s201_22 (s201_23 (Or.inl rfl) (am_aft (s202_33 (fun _ => s202_36 (s202_37 (s202_41 (Or.inr rfl) (k)))) (fun h => absurd (show (0 : Int32) = 0 by decide) h))))) (fun h3237 => have k := k.2 h3237; s201_9 (s201_10 (s201_11 (s201_12 k0_105 (Nat.le_of_ble_eq_true rfl) (w_193 k.1.1 k.1.2 (have k := k.2; am_aft (s201_15 (fun h3239 => have k := k.1 h3239; s201_22 (s201_23 (Or.inl rfl) (am_aft (s202_33 (fun _ => s202_36 (s202_37 (s202_41 (Or.inr rfl) (k)))) (fun h => absurd (show (0 : Int32) = 0 by decide) h))))) (fun h3239 => have k := k.2 h3239; s201_18 (s201_19 (s201_23 (Or.inr rfl) (am_aft (s202_33 (fun h => absurd h (show ¬ (1 : Int32) = 0 by decide)) (fun _ => s202_40 (s202_41 (Or.inl rfl) (k)))))))))))))))))))))))))) (fun h3236 => have k := k.2 h3236; s202_40 (s202_41 (Or.inl rfl) (k))))))))))))))) (fun h3233 => have k := k.2 h3233; s202_40 (s202_41 (Or.inl rfl) (k)))))))
/-! FEWEST WRONG: the reference, behind lookAt -/
theorem Inv.b26 {I : Nat → Nat → Int32} (h : Inv I) : I 105 26 = Int32.ofInt (bk I : Int) := by
  rw [h.2.2.2.2.2.1.2]
  exact h.book.1
def wrb (I : Nat → Nat → Int32) (r : Nat) (t : Int32) : Bool := decide (I 132 r = 0) && (!rr_is I r || (decide (I 128 r = 2) && (decide (t < rr_fr I r) || decide (rr_tl I r < t))))
theorem w_202 {X : am_X} {d : Nat} {I : Nat → Nat → Int32} {J : Nat → Nat → Int64} {Q : Option Value → am_M → Prop} {x0 x1 : Int32} (h : Inv I ∧ am_ix x0 40) (k : Q (some (.int (bz (wrb I (Int32.toNatClampNeg x0) x1)))) (am_N I J)) : am_wp X (d + 3) 202 0 [.ref 105, .int x0, .int x1] [] (am_N I J) Q := by
  obtain ⟨hI, hx⟩ := h
  have hh : am_ix (I 129 (Int32.toNatClampNeg x0)) 8 := hI.ixMH (am_ix_lt hx)
  have p := hI.p191 hx
  have fin : ∀ b : Bool, wrb I (Int32.toNatClampNeg x0) x1 = b → Q (some (.int (bz b))) (am_N I J) := fun b e => by rw [← e]; exact k
  refine c_202 ⟨hx, fun a => ⟨⟨hx, p⟩, fun b => fin true ?_, fun b => ⟨hx, fun c => ⟨⟨hx, hh⟩, fun e => fin true ?_, fun e => ⟨⟨hx, hh⟩, fun f => fin true ?_, fun f => fin false ?_⟩⟩, fun c => fin false ?_⟩⟩, fun a => fin false ?_⟩
  · rw [bz_0] at b
    unfold wrb
    rw [decide_eq_true a, b]
    rfl
  · rw [bz_0, Bool.not_eq_false] at b
    unfold wrb
    rw [decide_eq_true a, b, decide_eq_true c, decide_eq_true e]
    rfl
  · rw [bz_0, Bool.not_eq_false] at b
    unfold wrb
    rw [decide_eq_true a, b, decide_eq_true c, decide_eq_true f, Bool.or_true]
    rfl
  · rw [bz_0, Bool.not_eq_false] at b
    unfold wrb
    rw [decide_eq_true a, b, decide_eq_true c, decide_eq_false e, decide_eq_false f]
    rfl
  · rw [bz_0, Bool.not_eq_false] at b
    unfold wrb
    rw [decide_eq_true a, b, decide_eq_false c]
    rfl
  · unfold wrb
    rw [decide_eq_false a]
    rfl
def cntB (S : Nat → Bool) : Nat → Nat
  | 0 => 0
  | m + 1 => cntB S m + (if S m = true then 1 else 0)
theorem cntB_le (S : Nat → Bool) : ∀ m, cntB S m ≤ m := by
  intro m
  induction m with
  | zero => exact Nat.le_refl 0
  | succ m ih =>
    show cntB S m + (if S m = true then 1 else 0) ≤ m + 1
    split <;> omega
theorem cntB_cg {S T : Nat → Bool} : ∀ m, (∀ r, r < m → S r = T r) → cntB S m = cntB T m := by
  intro m
  induction m with
  | zero => intro _; rfl
  | succ m ih =>
    intro h
    show cntB S m + (if S m = true then 1 else 0) = cntB T m + (if T m = true then 1 else 0)
    rw [ih (fun r hr => h r (by omega)), h m (by omega)]
def wn (I : Nat → Nat → Int32) (t : Int32) : Nat := cntB (fun r => wrb I r t) (bk I)
def wab (I : Nat → Nat → Int32) (r : Nat) : Bool := decide (I 132 r = 0) && !rr_is I r
def wa (I : Nat → Nat → Int32) : Nat := cntB (wab I) (bk I)
theorem wn_40 {I : Nat → Nat → Int32} (hI : Inv I) (t : Int32) : wn I t ≤ 40 := Nat.le_trans (cntB_le _ _) hI.book.2
theorem c_203 {X : am_X} {d : Nat} {I : Nat → Nat → Int32} {J : Nat → Nat → Int64} {Q : Option Value → am_M → Prop} {x0 : Int32} (k : am_wp X (d + 4) 203 4 [.ref 105, .int x0, .int 0, .int 0] [] (am_N I J) Q) : am_wp X (d + 4) 203 0 [.ref 105, .int x0, am_uv, am_uv] [] (am_N I J) Q := s203_0 (s203_1 rfl (s203_2 (s203_3 rfl (k))))
theorem c_205 {X : am_X} {d : Nat} {I : Nat → Nat → Int32} {J : Nat → Nat → Int64} {Q : Option Value → am_M → Prop} (k : am_wp X (d + 3) 205 4 [.ref 105, .int 0, .int 0] [] (am_N I J) Q) : am_wp X (d + 3) 205 0 [.ref 105, am_uv, am_uv] [] (am_N I J) Q := s205_0 (s205_1 rfl (s205_2 (s205_3 rfl (k))))
theorem c_203_4 {X : am_X} {d : Nat} {I : Nat → Nat → Int32} {J : Nat → Nat → Int64} {Q : Option Value → am_M → Prop} {x0 n m : Int32} (k : (((I 105 26) ≤ m → Q (some (.int n)) (am_N I J)) ∧ (¬ (I 105 26) ≤ m → ((Inv I ∧ am_ix m 40) ∧ (((bz (wrb I (Int32.toNatClampNeg m) x0)) = 0 → am_wp X (d + 4) 203 4 [.ref 105, .int x0, .int (n + 0), .int (m + 1)] [] (am_N I J) Q) ∧ (¬ (bz (wrb I (Int32.toNatClampNeg m) x0)) = 0 → am_wp X (d + 4) 203 4 [.ref 105, .int x0, .int (n + 1), .int (m + 1)] [] (am_N I J) Q)))))) : am_wp X (d + 4) 203 4 [.ref 105, .int x0, .int n, .int m] [] (am_N I J) Q := s203_4 (s203_5 (s203_6 k0_105 (s203_9 (fun h3242 => have k := k.1 h3242; s203_35 (s203_36 (k))) (fun h3242 => have k := k.2 h3242; s203_12 (s203_13 (s203_14 (s203_15 (s203_16 k0_105 (Nat.le_of_ble_eq_true rfl) (w_202 k.1 (have k := k.2; am_aft (s203_19 (fun h3243 => have k := k.1 h3243; s203_26 (s203_27 (s203_28 rfl (s203_29 rfl (s203_32 (k)))))) (fun h3243 => have k := k.2 h3243; s203_22 (s203_23 (s203_27 (s203_28 rfl (s203_29 rfl (s203_32 (k))))))))))))))))))
theorem c_205_4 {X : am_X} {d : Nat} {I : Nat → Nat → Int32} {J : Nat → Nat → Int64} {Q : Option Value → am_M → Prop} {n m : Int32} (k : (((I 105 26) ≤ m → Q (some (.int n)) (am_N I J)) ∧ (¬ (I 105 26) ≤ m → (am_ix m 40 ∧ (((I 132 (Int32.toNatClampNeg m)) = 0 → ((am_ix m 40 ∧ p191 I (Int32.toNatClampNeg m)) ∧ (((bz (rr_is I (Int32.toNatClampNeg m))) = 0 → am_wp X (d + 3) 205 4 [.ref 105, .int (n + 1), .int (m + 1)] [] (am_N I J) Q) ∧ (¬ (bz (rr_is I (Int32.toNatClampNeg m))) = 0 → am_wp X (d + 3) 205 4 [.ref 105, .int (n + 0), .int (m + 1)] [] (am_N I J) Q)))) ∧ (¬ (I 132 (Int32.toNatClampNeg m)) = 0 → am_wp X (d + 3) 205 4 [.ref 105, .int (n + 0), .int (m + 1)] [] (am_N I J) Q)))))) : am_wp X (d + 3) 205 4 [.ref 105, .int n, .int m] [] (am_N I J) Q := s205_4 (s205_5 (s205_6 k0_105 (s205_9 (fun h3244 => have k := k.1 h3244; s205_43 (s205_44 (k))) (fun h3244 => have k := k.2 h3244; s205_12 (s205_13 (s205_14 k0_105 p0_105_31 (s205_17 (have b3245 := k.1; have k := k.2; s205_18 k0_132 b3245 (s205_19 (fun h3246 => have k := k.1 h3246; s205_22 (s205_23 (s205_24 k0_105 (Nat.le_of_ble_eq_true rfl) (w_191 k.1.1 k.1.2 (have k := k.2; am_aft (s205_27 (fun h3247 => have k := k.1 h3247; s205_30 (s205_31 (s205_35 (s205_36 rfl (s205_37 rfl (s205_40 (k))))))) (fun h3247 => have k := k.2 h3247; s205_34 (s205_35 (s205_36 rfl (s205_37 rfl (s205_40 (k)))))))))))) (fun h3246 => have k := k.2 h3246; s205_34 (s205_35 (s205_36 rfl (s205_37 rfl (s205_40 (k)))))))))))))))
theorem oi_p0 (n : Nat) : Int32.ofInt (n : Int) + 0 = Int32.ofInt (n : Int) := by rw [show (0 : Int32) = Int32.ofInt 0 from rfl, oi_add, Int.add_zero]
theorem w_203 {X : am_X} {d : Nat} {I : Nat → Nat → Int32} {J : Nat → Nat → Int64} {Q : Option Value → am_M → Prop} {x0 : Int32} (hI : Inv I) (k : Q (some (.int (Int32.ofInt (wn I x0 : Int)))) (am_N I J)) : am_wp X (d + 4) 203 0 [.ref 105, .int x0, am_uv, am_uv] [] (am_N I J) Q := by
  have e26 := hI.b26
  have l40 := hI.book.2
  refine c_203 ?_
  refine am_down (N := bk I) (P := fun m => am_wp X (d + 4) 203 4 [.ref 105, .int x0, .int (Int32.ofInt (cntB (fun r => wrb I r x0) m : Int)), .int (Int32.ofInt (m : Int))] [] (am_N I J) Q) ?_ ?_ 0 (by omega)
  · exact c_203_4 ⟨fun _ => k, fun q => absurd (by rw [e26]; exact Int32.le_refl _) q⟩
  · intro m hm ih
    have ix : am_ix (Int32.ofInt (m : Int)) 40 := oi_ix (by omega) (by omega) (by omega)
    have st : cntB (fun r => wrb I r x0) (m + 1) = cntB (fun r => wrb I r x0) m + (if wrb I m x0 = true then 1 else 0) := rfl
    refine c_203_4 ⟨fun q => absurd q (by rw [e26, oi_le (by omega) (by omega)]; omega), fun _ => ⟨⟨hI, ix⟩, ?_⟩⟩
    rw [oi_cln (by omega), oi_succ, oi_succ, oi_p0, bz_0]
    refine ⟨fun q => ?_, fun q => ?_⟩
    · rw [if_neg (by rw [q]; decide)] at st
      rw [← show cntB (fun r => wrb I r x0) (m + 1) = cntB (fun r => wrb I r x0) m from st]
      exact ih
    · rw [if_pos ((Bool.not_eq_false _).mp q)] at st
      rw [← st]
      exact ih
theorem w_205 {X : am_X} {d : Nat} {I : Nat → Nat → Int32} {J : Nat → Nat → Int64} {Q : Option Value → am_M → Prop} (hI : Inv I) (k : Q (some (.int (Int32.ofInt (wa I : Int)))) (am_N I J)) : am_wp X (d + 3) 205 0 [.ref 105, am_uv, am_uv] [] (am_N I J) Q := by
  have e26 := hI.b26
  have l40 := hI.book.2
  refine c_205 ?_
  refine am_down (N := bk I) (P := fun m => am_wp X (d + 3) 205 4 [.ref 105, .int (Int32.ofInt (cntB (wab I) m : Int)), .int (Int32.ofInt (m : Int))] [] (am_N I J) Q) ?_ ?_ 0 (by omega)
  · exact c_205_4 ⟨fun _ => k, fun q => absurd (by rw [e26]; exact Int32.le_refl _) q⟩
  · intro m hm ih
    have ix : am_ix (Int32.ofInt (m : Int)) 40 := oi_ix (by omega) (by omega) (by omega)
    have p := hI.p191 ix
    rw [oi_cln (by omega)] at p
    have st : cntB (wab I) (m + 1) = cntB (wab I) m + (if wab I m = true then 1 else 0) := rfl
    refine c_205_4 ⟨fun q => absurd q (by rw [e26, oi_le (by omega) (by omega)]; omega), fun _ => ⟨ix, ?_⟩⟩
    rw [oi_cln (by omega), oi_succ, oi_succ, oi_p0, bz_0]
    have same : wab I m = false → am_wp X (d + 3) 205 4 [.ref 105, .int (Int32.ofInt (cntB (wab I) m : Int)), .int (Int32.ofInt ((m + 1 : Nat) : Int))] [] (am_N I J) Q := by
      intro q
      rw [if_neg (by rw [q]; decide)] at st
      rw [← show cntB (wab I) (m + 1) = cntB (wab I) m from st]
      exact ih
    refine ⟨fun a => ⟨⟨ix, p⟩, fun b => ?_, fun b => same ?_⟩, fun a => same ?_⟩
    · rw [if_pos (by unfold wab; rw [decide_eq_true a, b]; rfl)] at st
      rw [← st]
      exact ih
    · unfold wab
      rw [(Bool.not_eq_false _).mp b]
      exact Bool.and_false _
    · unfold wab
      rw [decide_eq_false a]
      rfl
