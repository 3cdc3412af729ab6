theorem c2_5 {X : am_X} {d : Nat} {I : Nat → Nat → Int32} {J : Nat → Nat → Int64} {Q : Option Value → am_M → Prop} {x0 : Int32} (k : am_wp X d 5 2 [.ref 35, .int x0, .int 0] [] (am_N I J) Q) : am_wp X d 5 0 [.ref 35, .int x0, am_uv] [] (am_N I J) Q := s5_0 (s5_1 rfl (k))
theorem c2_5_2 {X : am_X} {d : Nat} {I : Nat → Nat → Int32} {J : Nat → Nat → Int64} {Q : Option Value → am_M → Prop} {x0 m : Int32} (k : (((I 35 2) ≤ m → Q (some (.int 0)) (am_N I J)) ∧ (¬ (I 35 2) ≤ m → (am_ix m 40 ∧ (((I (43 + (Int32.toNatClampNeg m)) 4) = 0 → am_wp X d 5 2 [.ref 35, .int x0, .int (m + 1)] [] (am_N I J) Q) ∧ (¬ (I (43 + (Int32.toNatClampNeg m)) 4) = 0 → (am_ix m 40 ∧ (((I (43 + (Int32.toNatClampNeg m)) 1) = x0 → Q (some (.int 1)) (am_N I J)) ∧ (¬ (I (43 + (Int32.toNatClampNeg m)) 1) = x0 → am_wp X d 5 2 [.ref 35, .int x0, .int (m + 1)] [] (am_N I J) Q))))))))) : am_wp X d 5 2 [.ref 35, .int x0, .int m] [] (am_N I J) Q := s5_2 (s5_3 (s5_4 k0_35 (s5_7 (fun h3191 => have k := k.1 h3191; s5_43 (s5_44 (Or.inl rfl) (k))) (fun h3191 => have k := k.2 h3191; s5_10 (s5_11 k0_35 p0_35_1 (s5_14 (have b3192 := k.1; have k := k.2; s5_15 k0_36 (by decide) b3192 (p0_36 b3192) (s5_16 (k0_R (isR_of b3192)) (s5_19 (fun h3193 => have k := k.1 h3193; s5_37 rfl (s5_40 (k))) (fun h3193 => have k := k.2 h3193; s5_22 (s5_23 k0_35 p0_35_1 (s5_26 (have b3194 := k.1; have k := k.2; s5_27 k0_36 (by decide) b3194 (p0_36 b3194) (s5_28 (k0_R (isR_of b3194)) (s5_31 (s5_32 (fun h3195 => have k := k.1 h3195; s5_35 (s5_36 (Or.inr rfl) (k))) (fun h3195 => have k := k.2 h3195; s5_37 rfl (s5_40 (k)))))))))))))))))))
theorem c2_43 {X : am_X} {d : Nat} {I : Nat → Nat → Int32} {J : Nat → Nat → Int64} {Q : Option Value → am_M → Prop} {x0 : Int32} (k : am_wp X (d + 2) 43 4 [.ref 83, .int x0, .int 0, .int 0] [] (am_N I J) Q) : am_wp X (d + 2) 43 0 [.ref 83, .int x0, am_uv, am_uv] [] (am_N I J) Q := s43_0 (s43_1 rfl (s43_2 (s43_3 rfl (k))))
theorem c2_43_4 {X : am_X} {d : Nat} {I : Nat → Nat → Int32} {J : Nat → Nat → Int64} {Q : Option Value → am_M → Prop} {x0 f m : Int32} (k : (((I 1 1) ≤ m → Q (some (.int f)) (am_N I J)) ∧ (¬ (I 1 1) ≤ m → ((((am_shr x0 m) &&& 1) = 1 → (Inv I ∧ ∀ (I3198 : Nat → Nat → Int32), w12 I I3198 m 1 → (((v12 I m 1) = 0 → am_wp X (d + 2) 43 4 [.ref 83, .int x0, .int f, .int (m + 1)] [] (am_N I3198 J) Q) ∧ (¬ (v12 I m 1) = 0 → am_wp X (d + 2) 43 4 [.ref 83, .int x0, .int (f ||| (am_shl 1 m)), .int (m + 1)] [] (am_N I3198 J) Q)))) ∧ (¬ ((am_shr x0 m) &&& 1) = 1 → am_wp X (d + 2) 43 4 [.ref 83, .int x0, .int f, .int (m + 1)] [] (am_N I J) Q))))) : am_wp X (d + 2) 43 4 [.ref 83, .int x0, .int f, .int m] [] (am_N I J) Q := s43_4 (s43_5 (s43_6 k0_83 p0_83_0 (s43_9 k0_35 p0_35_0 (s43_12 k0_1 (s43_15 (fun h3196 => have k := k.1 h3196; s43_51 (s43_52 (k))) (fun h3196 => have k := k.2 h3196; s43_18 (s43_19 (s43_20 (s43_21 (s43_22 (s43_23 (s43_24 (fun h3197 => have k := k.1 h3197; s43_27 (s43_28 k0_83 p0_83_0 (s43_31 (s43_32 (s43_33 k0_35 (Nat.le_of_ble_eq_true rfl) (w_12 k.1 (fun I3198 h1 h2 h3 => have k := k.2 I3198 ⟨h1, h2, h3⟩; am_aft (s43_36 (fun h3199 => have k := k.1 h3199; s43_45 rfl (s43_48 (k))) (fun h3199 => have k := k.2 h3199; s43_39 (s43_40 (s43_41 (s43_42 (s43_43 (s43_44 rfl (s43_45 rfl (s43_48 (k))))))))))))))))) (fun h3197 => have k := k.2 h3197; s43_45 rfl (s43_48 (k)))))))))))))))
theorem c2_210 {X : am_X} {d : Nat} {I : Nat → Nat → Int32} {J : Nat → Nat → Int64} {Q : Option Value → am_M → Prop} {x0 : Int32} (k : am_wp X d 210 2 [.ref 105, .int x0, .int 0] [] (am_N I J) Q) : am_wp X d 210 0 [.ref 105, .int x0, am_uv] [] (am_N I J) Q := s210_0 (s210_1 rfl (k))
theorem c2_210_2 {X : am_X} {d : Nat} {I : Nat → Nat → Int32} {J : Nat → Nat → Int64} {Q : Option Value → am_M → Prop} {x0 m : Int32} (k : (((I 105 26) ≤ m → Q (some (.int 0)) (am_N I J)) ∧ (¬ (I 105 26) ≤ m → (am_ix m 40 ∧ (((I 129 (Int32.toNatClampNeg m)) = x0 → (am_ix m 40 ∧ (((I 132 (Int32.toNatClampNeg m)) = 0 → Q (some (.int 1)) (am_N I J)) ∧ (¬ (I 132 (Int32.toNatClampNeg m)) = 0 → am_wp X d 210 2 [.ref 105, .int x0, .int (m + 1)] [] (am_N I J) Q)))) ∧ (¬ (I 129 (Int32.toNatClampNeg m)) = x0 → am_wp X d 210 2 [.ref 105, .int x0, .int (m + 1)] [] (am_N I J) Q)))))) : am_wp X d 210 2 [.ref 105, .int x0, .int m] [] (am_N I J) Q := s210_2 (s210_3 (s210_4 k0_105 (s210_7 (fun h3200 => have k := k.1 h3200; s210_37 (s210_38 (Or.inl rfl) (k))) (fun h3200 => have k := k.2 h3200; s210_10 (s210_11 k0_105 p0_105_28 (s210_14 (have b3201 := k.1; have k := k.2; s210_15 k0_129 b3201 (s210_16 (s210_17 (fun h3202 => have k := k.1 h3202; s210_20 (s210_21 k0_105 p0_105_31 (s210_24 (have b3203 := k.1; have k := k.2; s210_25 k0_132 b3203 (s210_26 (fun h3204 => have k := k.1 h3204; s210_29 (s210_30 (Or.inr rfl) (k))) (fun h3204 => have k := k.2 h3204; s210_31 rfl (s210_34 (k)))))))) (fun h3202 => have k := k.2 h3202; s210_31 rfl (s210_34 (k))))))))))))
/-! MISTAKEN -/
def bor (f : Nat → Bool) : Nat → Bool
  | 0 => false
  | m + 1 => bor f m || f m
theorem bor_iff (f : Nat → Bool) : ∀ m, bor f m = true ↔ ∃ i, i < m ∧ f i = true := by
  intro m
  induction m with
  | zero => exact ⟨fun h => (by cases h), fun ⟨i, h, _⟩ => absurd h (by omega)⟩
  | succ m ih =>
    show (bor f m || f m) = true ↔ _
    rw [Bool.or_eq_true, ih]
    refine ⟨fun q => ?_, fun ⟨i, h1, h2⟩ => ?_⟩
    · rcases q with ⟨i, h1, h2⟩ | q
      · exact ⟨i, by omega, h2⟩
      · exact ⟨m, by omega, q⟩
    · by_cases e : i = m
      · exact Or.inr (by rw [← e]; exact h2)
      · exact Or.inl ⟨i, by omega, h2⟩
theorem bor_cg {f g : Nat → Bool} : ∀ m, (∀ i, i < m → f i = g i) → bor f m = bor g m := by
  intro m
  induction m with
  | zero => intro _; rfl
  | succ m ih =>
    intro h
    show (bor f m || f m) = (bor g m || g m)
    rw [ih (fun i hi => h i (by omega)), h m (by omega)]
theorem beq_of {a b : Bool} (h : a = true ↔ b = true) : a = b := by
  cases a
  · cases b
    · rfl
    · exact absurd (h.mpr rfl) (by decide)
  · exact (h.mp rfl).symm
def hoC (I : Nat → Nat → Int32) (x : Int32) (r : Nat) : Bool := if I (43 + r) 4 = 0 then false else decide (I (43 + r) 1 = x)
def hoR (I : Nat → Nat → Int32) (x : Int32) (r : Nat) : Bool := if I 129 r = x then decide (I 132 r = 0) else false
theorem w_5 {X : am_X} {d : Nat} {I : Nat → Nat → Int32} {J : Nat → Nat → Int64} {Q : Option Value → am_M → Prop} {x0 : Int32} (hI : Inv I) (k : Q (some (.int (bz (bor (hoC I x0) (bk I))))) (am_N I J)) : am_wp X d 5 0 [.ref 35, .int x0, am_uv] [] (am_N I J) Q := by
  obtain ⟨eb, lb⟩ := hI.book
  refine c2_5 ?_
  refine am_down (N := bk I) (P := fun m => bor (hoC I x0) m = false → am_wp X d 5 2 [.ref 35, .int x0, .int (Int32.ofInt (m : Int))] [] (am_N I J) Q) ?_ ?_ 0 (by omega) rfl
  · intro hz
    rw [hz] at k
    exact c2_5_2 ⟨fun _ => k, fun q => absurd (by rw [eb]; exact Int32.le_refl _) q⟩
  · intro m hm ih hz
    have ix : am_ix (Int32.ofInt (m : Int)) 40 := oi_ix (by omega) (by omega) (by omega)
    have no : hoC I x0 m = false → am_wp X d 5 2 [.ref 35, .int x0, .int (Int32.ofInt (m : Int) + 1)] [] (am_N I J) Q := by
      intro q
      rw [oi_succ]
      refine ih ?_
      show (bor (hoC I x0) m || hoC I x0 m) = false
      rw [hz, q]
      rfl
    refine c2_5_2 ⟨fun q => absurd q (by rw [eb, oi_le (by omega) (by omega)]; omega), fun _ => ?_⟩
    rw [oi_cln (by omega)]
    refine ⟨ix, fun q => no (if_pos q), fun q => ⟨ix, fun p => ?_, fun p => no ((if_neg q).trans (decide_eq_false p))⟩⟩
    have : bor (hoC I x0) (bk I) = true := (bor_iff _ _).mpr ⟨m, hm, (if_neg q).trans (decide_eq_true p)⟩
    rw [this] at k
    exact k
theorem w_210 {X : am_X} {d : Nat} {I : Nat → Nat → Int32} {J : Nat → Nat → Int64} {Q : Option Value → am_M → Prop} {x0 : Int32} (hI : Inv I) (k : Q (some (.int (bz (bor (hoR I x0) (bk I))))) (am_N I J)) : am_wp X d 210 0 [.ref 105, .int x0, am_uv] [] (am_N I J) Q := by
  have eb := hI.bm
  have lb := hI.book.2
  refine c2_210 ?_
  refine am_down (N := bk I) (P := fun m => bor (hoR I x0) m = false → am_wp X d 210 2 [.ref 105, .int x0, .int (Int32.ofInt (m : Int))] [] (am_N I J) Q) ?_ ?_ 0 (by omega) rfl
  · intro hz
    rw [hz] at k
    exact c2_210_2 ⟨fun _ => k, fun q => absurd (by rw [eb]; exact Int32.le_refl _) q⟩
  · intro m hm ih hz
    have ix : am_ix (Int32.ofInt (m : Int)) 40 := oi_ix (by omega) (by omega) (by omega)
    have no : hoR I x0 m = false → am_wp X d 210 2 [.ref 105, .int x0, .int (Int32.ofInt (m : Int) + 1)] [] (am_N I J) Q := by
      intro q
      rw [oi_succ]
      refine ih ?_
      show (bor (hoR I x0) m || hoR I x0 m) = false
      rw [hz, q]
      rfl
    refine c2_210_2 ⟨fun q => absurd q (by rw [eb, oi_le (by omega) (by omega)]; omega), fun _ => ?_⟩
    rw [oi_cln (by omega)]
    refine ⟨ix, fun p => ⟨ix, fun q => ?_, fun q => no ((if_pos p).trans (decide_eq_false q))⟩, fun p => no (if_neg p)⟩
    have : bor (hoR I x0) (bk I) = true := (bor_iff _ _).mpr ⟨m, hm, (if_pos p).trans (decide_eq_true q)⟩
    rw [this] at k
    exact k
theorem ho_eq {I : Nat → Nat → Int32} (hI : Inv I) (x : Int32) : bor (hoC I x) (bk I) = bor (hoR I x) (bk I) := by
  refine bor_cg _ (fun r hr => ?_)
  have g := hI.2.2.2.2.2.2.1 r (hI.lb hr).1
  unfold hoC hoR
  rw [g.1.2.1]
  by_cases h : I 132 r = 0
  · rw [if_neg (by rw [hI.on hr]; exact fun q => q h), decide_eq_true h]
    by_cases p : I 129 r = x
    · rw [if_pos p, decide_eq_true p]
    · rw [if_neg p, decide_eq_false p]
  · rw [if_pos (by rw [hI.on hr]; exact h), decide_eq_false h]
    split <;> rfl
/-! one cell's HOUSES without which something fits -/
theorem wb.tr {I I' I'' : Nat → Nat → Int32} (h : wb I I') (h' : wb I' I'') : wb I I'' := fun a k q => (h' a k q).trans (h a k q)
theorem wb.e12 {I I' : Nat → Nat → Int32} (h : wb I I') (x y : Int32) : v12 I' x y = v12 I x y := by
  have a : ∀ r, aC I' x y r = aC I x y r := fun r => h.wx.eC x y r
  have e40 : I' 40 = I 40 := funext fun j => h 40 j (by omega)
  have e41 : I' 41 = I 41 := funext fun j => h 41 j (by omega)
  have e42 : I' 42 = I 42 := funext fun j => h 42 j (by omega)
  have ea : aC I' x y = aC I x y := funext a
  unfold v12
  rw [h.wx.book, e40, e41, e42, ea]
def nk (I : Nat → Nat → Int32) : Nat := Int32.toNatClampNeg (I 1 1)
theorem Inv.nk8 {I : Nat → Nat → Int32} (h : Inv I) : I 1 1 = Int32.ofInt (nk I : Int) ∧ nk I ≤ 8 := by
  obtain ⟨e, l⟩ := h.1.1.nat (by decide)
  exact ⟨e, by unfold nk; omega⟩
def t43 (I I' : Nat → Nat → Int32) (x r : Int32) : Prop := wb I I' ∧ ∀ i, i < 32 → tb r i = (tb x i && (decide (i < nk I) && !decide (v12 I (Int32.ofInt (i : Int)) 1 = 0)))
theorem w_43 {X : am_X} {d : Nat} {I : Nat → Nat → Int32} {J : Nat → Nat → Int64} {Q : Option Value → am_M → Prop} {x0 : Int32} (hI : Inv I) (k : ∀ (r : Int32) (I' : Nat → Nat → Int32), t43 I I' x0 r → Q (some (.int r)) (am_N I' J)) : am_wp X (d + 2) 43 0 [.ref 83, .int x0, am_uv, am_uv] [] (am_N I J) Q := by
  obtain ⟨en, ln⟩ := hI.nk8
  refine c2_43 ?_
  refine am_down (N := nk I) (P := fun m => ∀ (f : Int32) (I' : Nat → Nat → Int32), wb I I' → (∀ i, i < 32 → tb f i = (tb x0 i && (decide (i < m) && !decide (v12 I (Int32.ofInt (i : Int)) 1 = 0)))) → am_wp X (d + 2) 43 4 [.ref 83, .int x0, .int f, .int (Int32.ofInt (m : Int))] [] (am_N I' J) Q) ?_ ?_ 0 (by omega) 0 I (fun _ _ _ => rfl) (fun i _ => by rw [tb_0, decide_eq_false (by omega), Bool.false_and, Bool.and_false])
  · intro f I' hs hf
    exact c2_43_4 ⟨fun _ => k f I' ⟨hs, hf⟩, fun q => absurd (by rw [hs 1 1 (by omega), en]; exact Int32.le_refl _) q⟩
  · intro m hm ih f I' hs hf
    have hI' := hI.sm hs.wx.sm
    refine c2_43_4 ⟨fun q => absurd q (by rw [hs 1 1 (by omega), en, oi_le (by omega) (by omega)]; omega), fun _ => ⟨fun q => ⟨hI', fun I1 h1 => ?_⟩, fun q => ?_⟩⟩
    · have hx := (tb_bit1 x0 (by omega)).mp q
      have ev := hs.e12 (Int32.ofInt (m : Int)) 1
      have s1 : wb I I1 := hs.tr h1.1
      rw [ev, oi_succ]
      refine ⟨fun z => ih f I1 s1 (fun i hi => ?_), fun z => ih _ I1 s1 (fun i hi => ?_)⟩
      · rw [hf i hi]
        by_cases e : i = m
        · rw [e, decide_eq_true z, decide_eq_false (show ¬ m < m by omega)]
          simp
        · rw [show decide (i < m + 1) = decide (i < m) from decide_eq_decide.mpr (by omega)]
      · rw [tb_or, hf i hi, tb_one (by omega) hi]
        by_cases e : i = m
        · rw [e, hx, decide_eq_false z, decide_eq_true (rfl : m = m), decide_eq_true (show m < m + 1 by omega)]
          simp
        · rw [decide_eq_false e, Bool.or_false, show decide (i < m + 1) = decide (i < m) from decide_eq_decide.mpr (by omega)]
    · have hx : tb x0 m = false := by
        cases hq : tb x0 m with
        | false => rfl
        | true => exact absurd ((tb_bit1 x0 (by omega)).mpr hq) q
      rw [oi_succ]
      refine ih f I' hs (fun i hi => ?_)
      rw [hf i hi]
      by_cases e : i = m
      · rw [e, hx]
        rfl
      · rw [show decide (i < m + 1) = decide (i < m) from decide_eq_decide.mpr (by omega)]
theorem c2_42 {X : am_X} {d : Nat} {I : Nat → Nat → Int32} {J : Nat → Nat → Int64} {Q : Option Value → am_M → Prop} (k : am_wp X (d + 5) 42 4 [.ref 83, .int 0, .int 0, am_uv] [] (am_N I J) Q) : am_wp X (d + 5) 42 0 [.ref 83, am_uv, am_uv, am_uv] [] (am_N I J) Q := s42_0 (s42_1 rfl (s42_2 (s42_3 rfl (k))))
theorem c2_42_4 {X : am_X} {d : Nat} {I : Nat → Nat → Int32} {J : Nat → Nat → Int64} {Q : Option Value → am_M → Prop} {k0 m : Int32} {u3 : Value} (hu3 : u3.category = 1) (k : (((I 1 1) ≤ m → am_wp X (d + 5) 42 45 [.ref 83, .int k0, .int 0, .int 0] [] (am_N I J) Q) ∧ (¬ (I 1 1) ≤ m → (Inv I ∧ (((bz (bor (hoC I m) (bk I))) = 0 → am_wp X (d + 5) 42 4 [.ref 83, .int k0, .int (m + 1), u3] [] (am_N I J) Q) ∧ (¬ (bz (bor (hoC I m) (bk I))) = 0 → am_wp X (d + 5) 42 4 [.ref 83, .int (k0 ||| (am_shl 1 m)), .int (m + 1), u3] [] (am_N I J) Q)))))) : am_wp X (d + 5) 42 4 [.ref 83, .int k0, .int m, u3] [] (am_N I J) Q := s42_4 (s42_5 (s42_6 k0_83 p0_83_0 (s42_9 k0_35 p0_35_0 (s42_12 k0_1 (s42_15 (fun h3205 => have k := k.1 h3205; s42_41 (s42_42 rfl (s42_43 (s42_44 rfl (k))))) (fun h3205 => have k := k.2 h3205; s42_18 (s42_19 k0_83 p0_83_0 (s42_22 (s42_23 k0_35 (Nat.le_of_ble_eq_true rfl) (w_5 k.1 (have k := k.2; am_aft (s42_26 (fun h3206 => have k := k.1 h3206; s42_35 rfl (s42_38 (k))) (fun h3206 => have k := k.2 h3206; s42_29 (s42_30 (s42_31 (s42_32 (s42_33 (s42_34 rfl (s42_35 rfl (s42_38 (k)))))))))))))))))))))
theorem c2_42_45 {X : am_X} {d : Nat} {I : Nat → Nat → Int32} {J : Nat → Nat → Int64} {Q : Option Value → am_M → Prop} {k0 f m : Int32} (k : ((576 ≤ m → Q (some (.int f)) (am_N I J)) ∧ (¬ 576 ≤ m → ((f = k0 → Q (some (.int f)) (am_N I J)) ∧ (¬ f = k0 → ((Inv I ∧ Wf I) ∧ ∀ (I3209 : Nat → Nat → Int32), We I I3209 m → (Inv I3209 ∧ ∀ (r3211 : Int32) (I3210 : Nat → Nat → Int32), t43 I3209 I3210 (k0 &&& (f ^^^ (-1))) r3211 → am_wp X (d + 5) 42 45 [.ref 83, .int k0, .int (f ||| r3211), .int (m + 1)] [] (am_N I3210 J) Q))))))) : am_wp X (d + 5) 42 45 [.ref 83, .int k0, .int f, .int m] [] (am_N I J) Q := s42_45 (s42_46 (s42_49 (fun h3207 => have k := k.1 h3207; s42_83 (s42_84 (k))) (fun h3207 => have k := k.2 h3207; s42_52 (s42_53 (s42_54 (fun h3208 => have k := k.1 h3208; s42_83 (s42_84 (k))) (fun h3208 => have k := k.2 h3208; s42_57 (s42_58 k0_83 p0_83_0 (s42_61 (s42_62 k0_35 (Nat.le_of_ble_eq_true rfl) (w_6 k.1.1 k.1.2 (fun I3209 h1 => have k := k.2 I3209 h1; am_aft0 (s42_65 (s42_66 (s42_67 (s42_68 (s42_69 (s42_70 (s42_71 (s42_72 k0_83 (Nat.le_of_ble_eq_true rfl) (w_43 k.1 (fun r3211 I3210 h1 => have k := k.2 r3211 I3210 h1; am_aft (s42_75 (s42_76 rfl (s42_77 rfl (s42_80 (k))))))))))))))))))))))))))
theorem c2_209 {X : am_X} {d : Nat} {I : Nat → Nat → Int32} {J : Nat → Nat → Int64} {Q : Option Value → am_M → Prop} {x0 : Int32} (k : am_wp X (d + 4) 209 2 [.ref 105, .int x0, .int 0] [] (am_N I J) Q) : am_wp X (d + 4) 209 0 [.ref 105, .int x0, am_uv] [] (am_N I J) Q := s209_0 (s209_1 rfl (k))
theorem c2_209_2 {X : am_X} {d : Nat} {I : Nat → Nat → Int32} {J : Nat → Nat → Int64} {Q : Option Value → am_M → Prop} {x0 m : Int32} (k : ((13824 ≤ m → Q (some (.int 0)) (am_N I J)) ∧ (¬ 13824 ≤ m → ((Inv I ∧ Wf I ∧ gR m 0 13823) ∧ ∀ (I3213 : Nat → Nat → Int32), gl I I3213 m → (g_all I m (gA I (-9) x0) = true → I3213 105 40 = g_E I m (gA I (-9) x0) ∧ I3213 105 41 = g_L I m (gA I (-9) x0)) → (((bz (g_fit I m (gA I (-9) x0))) = 0 → am_wp X (d + 4) 209 2 [.ref 105, .int x0, .int (m + 1)] [] (am_N I3213 J) Q) ∧ (¬ (bz (g_fit I m (gA I (-9) x0))) = 0 → Q (some (.int 1)) (am_N I3213 J))))))) : am_wp X (d + 4) 209 2 [.ref 105, .int x0, .int m] [] (am_N I J) Q := s209_2 (s209_3 (s209_6 (fun h3212 => have k := k.1 h3212; s209_28 (s209_29 (Or.inl rfl) (k))) (fun h3212 => have k := k.2 h3212; s209_9 (s209_10 (s209_11 (s209_13 (s209_14 k0_105 (Nat.le_of_ble_eq_true rfl) (w_194 k.1.1 k.1.2.1 k.1.2.2 (fun I3213 h1 h2 => have k := k.2 I3213 h1 h2; am_aft (s209_17 (fun h3214 => have k := k.1 h3214; s209_22 rfl (s209_25 (k))) (fun h3214 => have k := k.2 h3214; s209_20 (s209_21 (Or.inr rfl) (k)))))))))))))
/-- without HOUSE i the cell c holds what fits -/
def xfb (I : Nat → Nat → Int32) (i c : Nat) : Bool := !decide (q_bits I (Int32.ofInt (c : Int)) (aC I (Int32.ofInt (i : Int)) 1) = 0)
def ask (I : Nat → Nat → Int32) (i : Nat) : Bool := decide (i < nk I) && bor (hoC I (Int32.ofInt (i : Int))) (bk I)
def t42 (I I' : Nat → Nat → Int32) (r : Int32) : Prop := wx I I' ∧ ∀ i, i < 32 → tb r i = (ask I i && bor (xfb I i) 576)
theorem w_42 {X : am_X} {d : Nat} {I : Nat → Nat → Int32} {J : Nat → Nat → Int64} {Q : Option Value → am_M → Prop} (hI : Inv I) (hw : Wf I) (k : ∀ (r : Int32) (I' : Nat → Nat → Int32), t42 I I' r → Q (some (.int r)) (am_N I' J)) : am_wp X (d + 5) 42 0 [.ref 83, am_uv, am_uv, am_uv] [] (am_N I J) Q := by
  obtain ⟨en, ln⟩ := hI.nk8
  -- the second loop
  have two : ∀ k0 : Int32, (∀ i, i < 32 → tb k0 i = ask I i) → am_wp X (d + 5) 42 45 [.ref 83, .int k0, .int 0, .int 0] [] (am_N I J) Q := by
    intro k0 hk
    refine am_down (N := 576) (P := fun m => ∀ (f : Int32) (I' : Nat → Nat → Int32), wx I I' → (∀ i, i < 32 → tb f i = (ask I i && bor (xfb I i) m)) → am_wp X (d + 5) 42 45 [.ref 83, .int k0, .int f, .int (Int32.ofInt (m : Int))] [] (am_N I' J) Q) ?_ ?_ 0 (by omega) 0 I wx.rf (fun i _ => by rw [tb_0]; exact (Bool.and_false _).symm)
    · intro f I' hs hf
      exact c2_42_45 ⟨fun _ => k f I' ⟨hs, hf⟩, fun q => absurd (by decide) q⟩
    · intro m hm ih f I' hs hf
      have hI' := hI.sm hs.sm
      refine c2_42_45 ⟨fun q => absurd q (by rw [show (576 : Int32) = Int32.ofInt 576 from rfl, oi_le (by omega) (by omega)]; omega), fun _ => ⟨fun e => k f I' ⟨hs, fun i hi => ?_⟩, fun _ => ⟨⟨hI', hs.wf hw⟩, fun I1 h1 => ⟨hI'.sm h1.1.sm, fun r I2 h2 => ?_⟩⟩⟩⟩
      · have a1 := hf i hi
        have a2 := hk i hi
        rw [e, a2] at a1
        rw [e, a2]
        cases ha : ask I i with
        | false => rfl
        | true =>
          rw [ha] at a1
          have a1 : true = bor (xfb I i) m := a1
          obtain ⟨c, c1, c2⟩ := (bor_iff _ _).mp a1.symm
          rw [(bor_iff (xfb I i) 576).mpr ⟨c, by omega, c2⟩]
          rfl
      · have s1 : wx I I1 := hs.tr h1.1.wx
        have en1 : nk I1 = nk I := by
          unfold nk
          rw [s1 1 1 (by omega) (by omega)]
        have ev : ∀ i : Nat, v12 I1 (Int32.ofInt (i : Int)) 1 = q_bits I (Int32.ofInt (m : Int)) (aC I (Int32.ofInt (i : Int)) 1) := by
          intro i
          rw [h1.e12 hI' (Int32.ofInt (i : Int)) 1]
          exact (hs.fs hI (fun r => hs.eC (Int32.ofInt (i : Int)) 1 r)).2.2.2
        rw [oi_succ]
        refine ih _ I2 (s1.tr h2.1.wx) (fun i hi => ?_)
        have e1 := h2.2 i hi
        rw [ev, en1, tb_and, tb_xor, tb_m1 i hi, Bool.xor_true, hk i hi] at e1
        show tb (f ||| r) i = (ask I i && (bor (xfb I i) m || xfb I i m))
        rw [tb_or, e1, hf i hi]
        have : xfb I i m = !decide (q_bits I (Int32.ofInt (m : Int)) (aC I (Int32.ofInt (i : Int)) 1) = 0) := rfl
        rw [← this]
        have an : ask I i = true → decide (i < nk I) = true := by
          intro q
          unfold ask at q
          rw [Bool.and_eq_true] at q
          exact q.1
        cases ha : ask I i with
        | false => simp
        | true =>
          rw [an ha]
          cases bor (xfb I i) m <;> cases xfb I i m <;> rfl
  refine c2_42 ?_
  refine am_down (N := nk I) (P := fun m => ∀ (k0 : Int32) (u3 : Value), u3.category = 1 → (∀ i, i < 32 → tb k0 i = (decide (i < m) && bor (hoC I (Int32.ofInt (i : Int))) (bk I))) → am_wp X (d + 5) 42 4 [.ref 83, .int k0, .int (Int32.ofInt (m : Int)), u3] [] (am_N I J) Q) ?_ ?_ 0 (by omega) 0 am_uv rfl (fun i _ => by rw [tb_0, decide_eq_false (by omega)]; rfl)
  · intro k0 u3 h3 hk
    exact c2_42_4 h3 ⟨fun _ => two k0 hk, fun q => absurd (by rw [en]; exact Int32.le_refl _) q⟩
  · intro m hm ih k0 u3 h3 hk
    refine c2_42_4 h3 ⟨fun q => absurd q (by rw [en, oi_le (by omega) (by omega)]; omega), fun _ => ⟨hI, fun q => ?_, fun q => ?_⟩⟩
    · have hb := bz_0.mp q
      rw [oi_succ]
      refine ih k0 u3 h3 (fun i hi => ?_)
      rw [hk i hi]
      by_cases e : i = m
      · rw [e, hb, Bool.and_false, Bool.and_false]
      · rw [show decide (i < m + 1) = decide (i < m) from decide_eq_decide.mpr (by omega)]
    · have hb : bor (hoC I (Int32.ofInt (m : Int))) (bk I) = true := by
        cases hq : bor (hoC I (Int32.ofInt (m : Int))) (bk I) with
        | true => rfl
        | false => exact absurd (bz_0.mpr hq) q
      rw [oi_succ]
      refine ih _ u3 h3 (fun i hi => ?_)
      rw [tb_or, hk i hi, tb_one (by omega) hi]
      by_cases e : i = m
      · rw [e, hb, decide_eq_true (rfl : m = m), decide_eq_true (show m < m + 1 by omega)]
        simp
      · rw [decide_eq_false e, Bool.or_false, show decide (i < m + 1) = decide (i < m) from decide_eq_decide.mpr (by omega)]
/-! the reference -/
def anf (I : Nat → Nat → Int32) (x : Int32) (g : Nat) : Bool := g_fit I (Int32.ofInt (g : Int)) (gA I (-9) x)
def t209 (I I' : Nat → Nat → Int32) (x r : Int32) : Prop := (gz I I' ∧ Inv I') ∧ r = bz (bor (anf I x) 13824)
theorem w_209 {X : am_X} {d : Nat} {I : Nat → Nat → Int32} {J : Nat → Nat → Int64} {Q : Option Value → am_M → Prop} {x0 : Int32} (hI : Inv I) (hw : Wf I) (k : ∀ (r : Int32) (I' : Nat → Nat → Int32), t209 I I' x0 r → Q (some (.int r)) (am_N I' J)) : am_wp X (d + 4) 209 0 [.ref 105, .int x0, am_uv] [] (am_N I J) Q := by
  refine c2_209 ?_
  refine am_down (N := 13824) (P := fun m => ∀ I' : Nat → Nat → Int32, gz I I' → Inv I' → bor (anf I x0) m = false → am_wp X (d + 4) 209 2 [.ref 105, .int x0, .int (Int32.ofInt (m : Int))] [] (am_N I' J) Q) ?_ ?_ 0 (by omega) I gz.rf hI rfl
  · intro I' hs hi hz
    exact c2_209_2 ⟨fun _ => k 0 I' ⟨⟨hs, hi⟩, by rw [hz]; rfl⟩, fun q => absurd (by decide) q⟩
  · intro m hm ih I' hs hi hz
    have hgm : gR (Int32.ofInt (m : Int)) 0 13823 := ⟨m, by omega, by omega, rfl⟩
    refine c2_209_2 ⟨fun q => absurd q (by rw [show (13824 : Int32) = Int32.ofInt 13824 from rfl, oi_le (by omega) (by omega)]; omega), fun _ => ⟨⟨hi, hs.wf hw, hgm⟩, fun I1 h1 _ => ?_⟩⟩
    have i1 := h1.inv hi hgm
    have s1 : gz I I1 := hs.tr h1.1
    rw [(hs.ft (Int32.ofInt (m : Int)) (A := gA I (-9) x0) (A' := gA I' (-9) x0) (fun r => hs.eA (-9) x0 r)).2.2.2]
    refine ⟨fun q => ?_, fun q => k 1 I1 ⟨⟨s1, i1⟩, ?_⟩⟩
    · rw [oi_succ]
      refine ih I1 s1 i1 ?_
      show (bor (anf I x0) m || anf I x0 m) = false
      rw [hz]
      exact bz_0.mp q
    · have : anf I x0 m = true := by
        cases hq : anf I x0 m with
        | true => rfl
        | false => exact absurd (bz_0.mpr hq) q
      rw [(bor_iff (anf I x0) 13824).mpr ⟨m, hm, this⟩]
      rfl
theorem c2_211 {X : am_X} {d : Nat} {I : Nat → Nat → Int32} {J : Nat → Nat → Int64} {Q : Option Value → am_M → Prop} (k : ((Inv I ∧ Wf I) ∧ ∀ (r3216 : Int32) (I3215 : Nat → Nat → Int32), t209 I I3215 (-9) r3216 → ((r3216 = 0 → am_wp X (d + 5) 211 15 [.ref 105, .int 0, .int 0] [] (am_N I3215 J) Q) ∧ (¬ r3216 = 0 → Q (some (.int 0)) (am_N I3215 J))))) : am_wp X (d + 5) 211 0 [.ref 105, am_uv, am_uv] [] (am_N I J) Q := s211_0 (s211_1 (s211_3 k0_105 (Nat.le_of_ble_eq_true rfl) (w_209 k.1.1 k.1.2 (fun r3216 I3215 h1 => have k := k.2 r3216 I3215 h1; am_aft (s211_6 (fun h3217 => have k := k.1 h3217; s211_11 (s211_12 rfl (s211_13 (s211_14 rfl (k))))) (fun h3217 => have k := k.2 h3217; s211_9 (s211_10 (k))))))))
theorem c2_211_15 {X : am_X} {d : Nat} {I : Nat → Nat → Int32} {J : Nat → Nat → Int64} {Q : Option Value → am_M → Prop} {b m : Int32} (k : (((I 105 2) ≤ m → Q (some (.int b)) (am_N I J)) ∧ (¬ (I 105 2) ≤ m → (Inv I ∧ (((bz (bor (hoR I m) (bk I))) = 0 → am_wp X (d + 5) 211 15 [.ref 105, .int (b ||| 0), .int (m + 1)] [] (am_N I J) Q) ∧ (¬ (bz (bor (hoR I m) (bk I))) = 0 → ((Inv I ∧ Wf I) ∧ ∀ (r3221 : Int32) (I3220 : Nat → Nat → Int32), t209 I I3220 m r3221 → ((r3221 = 0 → am_wp X (d + 5) 211 15 [.ref 105, .int (b ||| 0), .int (m + 1)] [] (am_N I3220 J) Q) ∧ (¬ r3221 = 0 → am_wp X (d + 5) 211 15 [.ref 105, .int (b ||| (am_shl 1 m)), .int (m + 1)] [] (am_N I3220 J) Q))))))))) : am_wp X (d + 5) 211 15 [.ref 105, .int b, .int m] [] (am_N I J) Q := s211_15 (s211_16 (s211_17 k0_105 (s211_20 (fun h3218 => have k := k.1 h3218; s211_55 (s211_56 (k))) (fun h3218 => have k := k.2 h3218; s211_23 (s211_24 (s211_25 (s211_26 k0_105 (Nat.le_of_ble_eq_true rfl) (w_210 k.1 (have k := k.2; am_aft (s211_29 (fun h3219 => have k := k.1 h3219; s211_46 (s211_47 (s211_48 rfl (s211_49 rfl (s211_52 (k)))))) (fun h3219 => have k := k.2 h3219; s211_32 (s211_33 (s211_34 k0_105 (Nat.le_of_ble_eq_true rfl) (w_209 k.1.1 k.1.2 (fun r3221 I3220 h1 => have k := k.2 r3221 I3220 h1; am_aft (s211_37 (fun h3222 => have k := k.1 h3222; s211_46 (s211_47 (s211_48 rfl (s211_49 rfl (s211_52 (k)))))) (fun h3222 => have k := k.2 h3222; s211_40 (s211_41 (s211_42 (s211_43 (s211_47 (s211_48 rfl (s211_49 rfl (s211_52 (k)))))))))))))))))))))))))
def skR (I : Nat → Nat → Int32) (i : Nat) : Bool := bor (hoR I (Int32.ofInt (i : Int))) (bk I) && bor (anf I (Int32.ofInt (i : Int))) 13824
theorem w_211l {X : am_X} {d : Nat} {I : Nat → Nat → Int32} {J : Nat → Nat → Int64} {Q : Option Value → am_M → Prop} (hI : Inv I) (hw : Wf I) (k : ∀ (r : Int32) (I' : Nat → Nat → Int32), Inv I' → (∀ i, i < 32 → tb r i = (decide (i < hk I) && skR I i)) → Q (some (.int r)) (am_N I' J)) : am_wp X (d + 5) 211 15 [.ref 105, .int 0, .int 0] [] (am_N I J) Q := by
  obtain ⟨en, ln⟩ := hI.hk8
  refine am_down (N := hk I) (P := fun m => ∀ (b : Int32) (I' : Nat → Nat → Int32), gz I I' → Inv I' → (∀ i, i < 32 → tb b i = (decide (i < m) && skR I i)) → am_wp X (d + 5) 211 15 [.ref 105, .int b, .int (Int32.ofInt (m : Int))] [] (am_N I' J) Q) ?_ ?_ 0 (by omega) 0 I gz.rf hI (fun i _ => by rw [tb_0, decide_eq_false (by omega)]; rfl)
  · intro b I' hs hi hb
    exact c2_211_15 ⟨fun _ => k b I' hi hb, fun q => absurd (by rw [hs 105 2 (by omega) (by omega), en]; exact Int32.le_refl _) q⟩
  · intro m hm ih b I' hs hi hb
    have eh : bor (hoR I' (Int32.ofInt (m : Int))) (bk I') = bor (hoR I (Int32.ofInt (m : Int))) (bk I) := by
      rw [hs.book]
      refine bor_cg _ (fun r hr => ?_)
      unfold hoR
      rw [hs 129 r (by omega) (by omega), hs 132 r (by omega) (by omega)]
    have ea : bor (anf I' (Int32.ofInt (m : Int))) 13824 = bor (anf I (Int32.ofInt (m : Int))) 13824 := bor_cg _ (fun g _ => (hs.ft (Int32.ofInt (g : Int)) (A := gA I (-9) (Int32.ofInt (m : Int))) (A' := gA I' (-9) (Int32.ofInt (m : Int))) (fun r => hs.eA _ _ r)).2.2.2)
    have or0 : ∀ x : Int32, x ||| 0 = x := fun x => tb_ext (fun i _ => by rw [tb_or, tb_0, Bool.or_false])
    have no : skR I m = false → ∀ i, i < 32 → tb (b ||| 0) i = (decide (i < m + 1) && skR I i) := by
      intro q i hi'
      rw [or0, hb i hi']
      by_cases e : i = m
      · rw [e, q, Bool.and_false, Bool.and_false]
      · rw [show decide (i < m + 1) = decide (i < m) from decide_eq_decide.mpr (by omega)]
    refine c2_211_15 ⟨fun q => absurd q (by rw [hs 105 2 (by omega) (by omega), en, oi_le (by omega) (by omega)]; omega), fun _ => ⟨hi, ?_⟩⟩
    rw [eh, oi_succ]
    refine ⟨fun q => ih _ I' hs hi (no ?_), fun q => ⟨⟨hi, hs.wf hw⟩, fun r I1 h1 => ?_⟩⟩
    · unfold skR
      rw [bz_0.mp q]
      rfl
    · have qb : bor (hoR I (Int32.ofInt (m : Int))) (bk I) = true := by
        cases hq : bor (hoR I (Int32.ofInt (m : Int))) (bk I) with
        | true => rfl
        | false => exact absurd (bz_0.mpr hq) q
      obtain ⟨⟨g1, i1⟩, er⟩ := h1
      rw [er, ea]
      refine ⟨fun z => ih _ I1 (hs.tr g1) i1 (no ?_), fun z => ih _ I1 (hs.tr g1) i1 (fun i hi' => ?_)⟩
      · unfold skR
        rw [bz_0.mp z, Bool.and_false]
      · have zb : bor (anf I (Int32.ofInt (m : Int))) 13824 = true := by
          cases hq : bor (anf I (Int32.ofInt (m : Int))) 13824 with
          | true => rfl
          | false => exact absurd (bz_0.mpr hq) z
        rw [tb_or, hb i hi', tb_one (by omega) hi']
        by_cases e : i = m
        · have : skR I m = true := by
            unfold skR
            rw [qb, zb]
            rfl
          rw [e, this, decide_eq_true (rfl : m = m), decide_eq_true (show m < m + 1 by omega)]
          simp
        · rw [decide_eq_false e, Bool.or_false, show decide (i < m + 1) = decide (i < m) from decide_eq_decide.mpr (by omega)]
/-! cells and guesses alike -/
theorem xa_eq {I : Nat → Nat → Int32} (hI : Inv I) (hw : Wf I) (i : Nat) : bor (xfb I i) 576 = bor (anf I (Int32.ofInt (i : Int))) 13824 := by
  have eA : ∀ r, r < bk I → aC I (Int32.ofInt (i : Int)) 1 r = gA I (-9) (Int32.ofInt (i : Int)) r := by
    intro r hr
    have g := hI.2.2.2.2.2.2.1 r (hI.lb hr).1
    unfold aC gA
    rw [g.1.2.1, if_pos rfl]
    by_cases h : I 132 r = 0
    · rw [if_neg (by rw [hI.on hr]; exact fun q => q h), if_pos h]
      by_cases p : I 129 r = Int32.ofInt (i : Int)
      · rw [if_pos p, if_pos rfl, if_pos p]
      · rw [if_neg p, if_neg (by decide), if_pos rfl, if_neg p]
    · rw [if_pos (by rw [hI.on hr]; exact h), if_neg h]
  refine beq_of ?_
  rw [bor_iff, bor_iff]
  refine ⟨fun ⟨c, c1, c2⟩ => ?_, fun ⟨g, g1, g2⟩ => ?_⟩
  · have nz : ¬ q_bits I (Int32.ofInt (c : Int)) (aC I (Int32.ofInt (i : Int)) 1) = 0 := by
      intro q
      unfold xfb at c2
      rw [decide_eq_true q] at c2
      cases c2
    obtain ⟨b, b1, b2⟩ := M24.q.nz.mp nz
    rw [(cell_fit hI hw eA c1 b1).2.2.2] at b2
    exact ⟨24 * c + b, by omega, b2⟩
  · obtain ⟨c, b, c1, b1, e⟩ := g_split g1
    unfold anf at g2
    rw [e, ← (cell_fit hI hw eA c1 b1).2.2.2] at g2
    refine ⟨c, c1, ?_⟩
    unfold xfb
    rw [decide_eq_false (M24.q.nz.mpr ⟨b, b1, g2⟩)]
    rfl
theorem an_cgn (I : Nat → Nat → Int32) : ∀ m, bor (anf I (-9)) m = false ↔ cgn I m = 0 := by
  intro m
  induction m with
  | zero => exact ⟨fun _ => rfl, fun _ => rfl⟩
  | succ m ih =>
    have e : anf I (-9) m = gfn I m := rfl
    show (bor (anf I (-9)) m || anf I (-9) m) = false ↔ cgn I m + (if gfn I m = true then 1 else 0) = 0
    rw [Bool.or_eq_false_iff, ih, e]
    cases hg : gfn I m with
    | true => exact ⟨fun q => (by cases q.2), fun q => (by rw [if_pos rfl] at q; omega)⟩
    | false => exact ⟨fun q => (by rw [if_neg (by decide)]; omega), fun q => ⟨by omega, rfl⟩⟩
theorem c_100 {X : am_X} {d : Nat} {I : Nat → Nat → Int32} {J : Nat → Nat → Int64} {Q : Option Value → am_M → Prop} (hI : Inv I) (k : ((Inv I ∧ Wf I ∧ Cf I) ∧ ∀ (I3223 : Nat → Nat → Int32), fk I I3223 → (((I3223 83 4) ≤ 0 → ((Inv I3223 ∧ Wf I3223) ∧ ∀ (r3226 : Int32) (I3225 : Nat → Nat → Int32), t42 I3223 I3225 r3226 → Q (some (.int r3226)) (am_N I3225 J))) ∧ (¬ (I3223 83 4) ≤ 0 → Q (some (.int 0)) (am_N I3223 J))))) : am_wp X (d + 6) 100 0 [.ref 0] [] (am_N I J) Q := s100_0 (s100_1 k0_0 p0_0_2 (s100_4 k0_83 (Nat.le_of_ble_eq_true rfl) (w_36f k.1.1 k.1.2.1 k.1.2.2 (fun I3223 h1 => have k := k.2 I3223 h1; am_aft0 (s100_7 (s100_8 k0_0 p0_0_2 (s100_11 k0_83 (s100_14 (fun h3224 => have k := k.1 h3224; s100_21 (s100_22 k0_0 p0_0_2 (s100_25 k0_83 (Nat.le_of_ble_eq_true rfl) (w_42 k.1.1 k.1.2 (fun r3226 I3225 h1 => have k := k.2 r3226 I3225 h1; am_aft (s100_28 (k))))))) (fun h3224 => have k := k.2 h3224; s100_17 (s100_18 (s100_28 (k))))))))))))
theorem e_100 {X : am_X} {d : Nat} {I : Nat → Nat → Int32} {J : Nat → Nat → Int64} {Q : Option Value → am_M → Prop} (hI : Inv I) (hw : Wf I) (hc : Cf I) (k : ∀ (r : Int32) (I1 : Nat → Nat → Int32) (J1 : Nat → Nat → Int64), Md 211 5 [.ref 105, am_uv, am_uv] (fun v => v = .int r) I1 → Q (some (.int r)) (am_N I1 J1)) : am_wp X (d + 6) 100 0 [.ref 0] [] (am_N I J) Q := by
  refine c_100 hI ⟨⟨hI, hw, hc⟩, fun I1 h1 => ?_⟩
  have hI1 : Inv I1 := hI.sm h1.1.1.sm
  have hw1 := h1.v.wf hw
  have sq := h1.v.q hI
  have lf := fcn_le I 576
  have ec : cgn I1 13824 = fcn I 576 := (cgn_fcn hI1 hw1 576 (Nat.le_refl _)).trans (sq.cn 576)
  refine ⟨fun z => ⟨⟨hI1, hw1⟩, fun r I3 h3 => k _ _ _ (fun X d J Q k' => ?_)⟩, fun z => k _ _ _ (fun X d J Q k' => c2_211 ⟨⟨hI1, hw1⟩, fun r I2 h2 => ⟨fun q => ?_, fun _ => k' _ _ _ rfl h2.1.2⟩⟩)⟩
  · have z0 : fcn I 576 = 0 := by
      rw [h1.2.2, show (0 : Int32) = Int32.ofInt 0 from rfl, oi_le (by omega) (by omega)] at z
      omega
    have hI3 : Inv I3 := hI1.sm h3.1.sm
    have hw3 := h3.1.wf hw1
    have s3 := h3.1.vw.q hI1
    have ec3 : cgn I3 13824 = 0 := (cgn_fcn hI3 hw3 576 (Nat.le_refl _)).trans ((s3.cn 576).trans ((sq.cn 576).trans z0))
    refine c2_211 ⟨⟨hI3, hw3⟩, fun r' I2 h2 => ⟨fun _ => ?_, fun q => ?_⟩⟩
    · have s2 := h2.1.1
      have hI2 := h2.1.2
      have hw2 := s2.wf hw3
      refine w_211l hI2 hw2 (fun b I4 hi4 hb => k' _ _ _ (congrArg Value.int (tb_ext (fun i hi => ?_))) hi4)
      rw [hb i hi, h3.2 i hi]
      have en : hk I2 = nk I1 := by
        have e1 := hI1.nk8.1
        have e2 : I2 105 2 = I1 1 1 := by
          rw [s2 105 2 (by omega) (by omega), h3.1 105 2 (by omega) (by omega), hI1.1.2]
        unfold hk nk
        rw [e2]
      have eo : bor (hoR I2 (Int32.ofInt (i : Int))) (bk I2) = bor (hoC I1 (Int32.ofInt (i : Int))) (bk I1) := by
        rw [ho_eq hI1, s2.book, h3.1.book]
        refine bor_cg _ (fun r hr => ?_)
        unfold hoR
        rw [s2 129 r (by omega) (by omega), s2 132 r (by omega) (by omega), h3.1 129 r (by omega) (by omega), h3.1 132 r (by omega) (by omega)]
      have ex : bor (anf I2 (Int32.ofInt (i : Int))) 13824 = bor (xfb I1 i) 576 := by
        have e1 : bor (anf I2 (Int32.ofInt (i : Int))) 13824 = bor (anf I3 (Int32.ofInt (i : Int))) 13824 := bor_cg _ (fun g _ => (s2.ft (Int32.ofInt (g : Int)) (A := gA I3 (-9) (Int32.ofInt (i : Int))) (A' := gA I2 (-9) (Int32.ofInt (i : Int))) (fun r => s2.eA _ _ r)).2.2.2)
        rw [e1, ← xa_eq hI3 hw3]
        refine bor_cg _ (fun c _ => ?_)
        unfold xfb
        rw [(s3.f (s3.eC (Int32.ofInt (i : Int)) 1) (Int32.ofInt (c : Int))).2.2.2]
      unfold skR ask
      rw [en, eo, ex, Bool.and_assoc]
    · exfalso
      apply q
      rw [h2.2, (an_cgn I3 13824).mpr ec3]
      rfl
  · exfalso
    have z0 : ¬ fcn I 576 = 0 := by
      intro w
      apply z
      rw [h1.2.2, w]
      decide
    have := h2.2
    rw [q] at this
    exact z0 (ec ▸ (an_cgn I1 13824).mp (bz_0.mp this.symm))
