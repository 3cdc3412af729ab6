theorem c_40 {X : am_X} {d : Nat} {I : Nat → Nat → Int32} {J : Nat → Nat → Int64} {Q : Option Value → am_M → Prop} {x0 : Int32} {x1 : Int32} (k : am_wp X d 40 4 [.int x0, .int x1, .int x1, .int 0] [] (am_N I J) Q) : am_wp X d 40 0 [.int x0, .int x1, am_uv, am_uv] [] (am_N I J) Q := s40_0 (s40_1 rfl (s40_2 (s40_3 rfl (k))))
theorem c_40_4 {X : am_X} {d : Nat} {I : Nat → Nat → Int32} {J : Nat → Nat → Int64} {Q : Option Value → am_M → Prop} {x0 x1 l m : Int32} (k : ((24 ≤ m → Q (some (.int 0)) (am_N I J)) ∧ (¬ 24 ≤ m → ((((am_shr x0 m) &&& 1) = 1 → ((l = 0 → Q (some (.int m)) (am_N I J)) ∧ (¬ l = 0 → am_wp X d 40 4 [.int x0, .int x1, .int (l + (-1)), .int (m + 1)] [] (am_N I J) Q))) ∧ (¬ ((am_shr x0 m) &&& 1) = 1 → am_wp X d 40 4 [.int x0, .int x1, .int l, .int (m + 1)] [] (am_N I J) Q))))) : am_wp X d 40 4 [.int x0, .int x1, .int l, .int m] [] (am_N I J) Q := s40_4 (s40_5 (s40_7 (fun h3191 => have k := k.1 h3191; s40_34 (s40_35 (k))) (fun h3191 => have k := k.2 h3191; s40_10 (s40_11 (s40_12 (s40_13 (s40_14 (s40_15 (s40_16 (fun h3192 => have k := k.1 h3192; s40_19 (s40_20 (fun h3193 => have k := k.1 h3193; s40_23 (s40_24 (k))) (fun h3193 => have k := k.2 h3193; s40_25 rfl (s40_28 rfl (s40_31 (k)))))) (fun h3192 => have k := k.2 h3192; s40_28 rfl (s40_31 (k))))))))))))
/-! THE i-TH that fits -/
theorem pcn_mono (x : Int32) {a : Nat} : ∀ {b : Nat}, a ≤ b → pcn x a ≤ pcn x b := by
  intro b h
  induction h with
  | refl => exact Nat.le_refl _
  | step _ ih => exact Nat.le_trans ih (Nat.le_add_right _ _)
theorem pcn_lt (x : Int32) {a b : Nat} (h : a < b) (hf : tb x a = true) : pcn x a < pcn x b := by
  have h1 := pcn_mono x (show a + 1 ≤ b from h)
  have h2 : pcn x (a + 1) = pcn x a + 1 := by
    show pcn x a + (if tb x a = true then 1 else 0) = _
    rw [if_pos hf]
  omega
theorem pcn_inj {x : Int32} {a b : Nat} (ha : tb x a = true) (hb : tb x b = true) (h : pcn x a = pcn x b) : a = b := by
  rcases Nat.lt_trichotomy a b with q | q | q
  · have := pcn_lt x q ha
    omega
  · exact q
  · have := pcn_lt x q hb
    omega
def fc (f : Nat → Int32) : Nat → Nat
  | 0 => 0
  | m + 1 => fc f m + pcn (f m) 24
theorem fc_eq {I : Nat → Nat → Int32} {f : Nat → Int32} : ∀ m, (∀ c, c < m → f c = fbit I c) → fc f m = fcn I m := by
  intro m
  induction m with
  | zero => intro _; rfl
  | succ m ih =>
    intro h
    show fc f m + pcn (f m) 24 = fcn I m + pcn (fbit I m) 24
    rw [ih (fun c hc => h c (by omega)), h m (by omega)]
theorem fc_mono (f : Nat → Int32) {a : Nat} : ∀ {b : Nat}, a ≤ b → fc f a ≤ fc f b := by
  intro b h
  induction h with
  | refl => exact Nat.le_refl _
  | step _ ih => exact Nat.le_trans ih (Nat.le_add_right _ _)
theorem fc_le (f : Nat → Int32) : ∀ m, fc f m ≤ 24 * m := by
  intro m
  induction m with
  | zero => exact Nat.le_refl 0
  | succ m ih =>
    have := pcn_le (f m) 24
    show fc f m + pcn (f m) 24 ≤ 24 * (m + 1)
    omega
theorem pcn_split {x : Int32} {n : Nat} : ∀ k, n < pcn x k → ∃ b, b < k ∧ tb x b = true ∧ pcn x b = n := by
  intro k
  induction k with
  | zero => intro h; exact absurd h (by show ¬ n < 0; omega)
  | succ k ih =>
    intro h
    by_cases hn : n < pcn x k
    · obtain ⟨b, b1, b2, b3⟩ := ih hn
      exact ⟨b, by omega, b2, b3⟩
    · have h : n < pcn x k + (if tb x k = true then 1 else 0) := h
      by_cases ht : tb x k = true
      · rw [if_pos ht] at h
        exact ⟨k, by omega, ht, by omega⟩
      · rw [if_neg ht] at h
        omega
theorem fc_split {f : Nat → Int32} {n : Nat} : ∀ m, n < fc f m → ∃ c b, c < m ∧ b < 24 ∧ tb (f c) b = true ∧ fc f c + pcn (f c) b = n := by
  intro m
  induction m with
  | zero => intro h; exact absurd h (by show ¬ n < 0; omega)
  | succ m ih =>
    intro h
    by_cases hn : n < fc f m
    · obtain ⟨c, b, c1, b1, b2, b3⟩ := ih hn
      exact ⟨c, b, by omega, b1, b2, b3⟩
    · have h : n < fc f m + pcn (f m) 24 := h
      obtain ⟨b, b1, b2, b3⟩ := pcn_split (x := f m) (n := n - fc f m) 24 (by omega)
      exact ⟨m, b, by omega, b1, b2, by omega⟩
theorem oi_pred {a : Nat} (h : 0 < a) : Int32.ofInt (a : Int) + (-1) = Int32.ofInt ((a - 1 : Nat) : Int) := by
  rw [show (-1 : Int32) = Int32.ofInt (-1) by decide, oi_add]
  congr 1
  omega
theorem oi_subn {a b : Nat} (h : b ≤ a) : Int32.ofInt (a : Int) - Int32.ofInt (b : Int) = Int32.ofInt ((a - b : Nat) : Int) := by
  rw [oi_sub]
  congr 1
  omega
def t40 (x l : Int32) (b : Nat) : Prop := b < 24 ∧ tb x b = true ∧ l = Int32.ofInt (pcn x b : Int)
theorem w_40 {X : am_X} {d : Nat} {I : Nat → Nat → Int32} {J : Nat → Nat → Int64} {Q : Option Value → am_M → Prop} {x0 x1 : Int32} (h : ∃ b, t40 x0 x1 b) (k : ∀ b, t40 x0 x1 b → Q (some (.int (Int32.ofInt (b : Int)))) (am_N I J)) : am_wp X d 40 0 [.int x0, .int x1, am_uv, am_uv] [] (am_N I J) Q := by
  obtain ⟨b, hb⟩ := h
  have kk := k b hb
  obtain ⟨b1, b2, b3⟩ := hb
  refine c_40 ?_
  have p24 := pcn_le x0 24
  refine am_down (N := b) (P := fun m => ∀ l : Int32, l = Int32.ofInt ((pcn x0 b - pcn x0 m : Nat) : Int) → am_wp X d 40 4 [.int x0, .int x1, .int l, .int (Int32.ofInt (m : Int))] [] (am_N I J) Q) ?_ ?_ 0 (by omega) x1 b3
  · intro l hl
    refine c_40_4 ⟨fun q => absurd q (by rw [show (24 : Int32) = Int32.ofInt 24 from rfl, oi_le (by omega) (by omega)]; omega), fun _ => ⟨fun _ => ⟨fun _ => kk, fun q => absurd (by rw [hl, Nat.sub_self]; rfl) q⟩, fun q => absurd ((tb_bit1 x0 (by omega)).mpr b2) q⟩⟩
  · intro m hm ih l hl
    have pm := pcn_mono x0 (show m ≤ b by omega)
    have pb := pcn_le x0 b
    refine c_40_4 ⟨fun q => absurd q (by rw [show (24 : Int32) = Int32.ofInt 24 from rfl, oi_le (by omega) (by omega)]; omega), fun _ => ⟨fun q => ?_, fun q => ?_⟩⟩
    · have ht := (tb_bit1 x0 (by omega)).mp q
      have pl := pcn_lt x0 hm ht
      have e1 : pcn x0 (m + 1) = pcn x0 m + 1 := by
        show pcn x0 m + (if tb x0 m = true then 1 else 0) = _
        rw [if_pos ht]
      refine ⟨fun z => ?_, fun _ => ?_⟩
      · rw [hl, show (0 : Int32) = Int32.ofInt 0 from rfl, oi_eq (by omega) (by omega)] at z
        omega
      · rw [oi_succ]
        refine ih _ ?_
        rw [hl, oi_pred (by omega), e1]
        congr 2 <;> omega
    · have ht : ¬ tb x0 m = true := fun w => q ((tb_bit1 x0 (by omega)).mpr w)
      have e1 : pcn x0 (m + 1) = pcn x0 m := by
        show pcn x0 m + (if tb x0 m = true then 1 else 0) = _
        rw [if_neg ht]
        rfl
      rw [oi_succ]
      exact ih _ (by rw [hl, e1])
theorem c_39 {X : am_X} {d : Nat} {I : Nat → Nat → Int32} {J : Nat → Nat → Int64} {Q : Option Value → am_M → Prop} {x0 : Int32} {x1 : Int32} (k : am_wp X (d + 2) 39 5 [.ref 83, .int x0, .int x1, .int x0, .int 0, am_uv] [] (am_N I J) Q) : am_wp X (d + 2) 39 0 [.ref 83, .int x0, .int x1, am_uv, am_uv, am_uv] [] (am_N I J) Q := s39_0 (s39_1 rfl (s39_2 (s39_3 rfl (k))))
theorem c_39_5 {X : am_X} {d : Nat} {I : Nat → Nat → Int32} {J : Nat → Nat → Int64} {Q : Option Value → am_M → Prop} {x0 x1 l m : Int32} {u5 : Value} (hu5 : u5.category = 1) (k : ((576 ≤ m → Q (some (.int (-1))) (am_N I J)) ∧ (¬ 576 ≤ m → (am_ix m 576 ∧ (((v_bitCount (I 84 (Int32.toNatClampNeg m))) ≤ l → am_wp X (d + 2) 39 5 [.ref 83, .int x0, .int x1, .int (l - (v_bitCount (I 84 (Int32.toNatClampNeg m)))), .int (m + 1), .int (v_bitCount (I 84 (Int32.toNatClampNeg m)))] [] (am_N I J) Q) ∧ (¬ (v_bitCount (I 84 (Int32.toNatClampNeg m))) ≤ l → (am_ix m 576 ∧ ((∃ b, t40 (I 84 (Int32.toNatClampNeg m)) l b) ∧ ∀ b3198 : Nat, t40 (I 84 (Int32.toNatClampNeg m)) l b3198 → Q (some (.int (v_partOfGuess m (Int32.ofInt (b3198 : Int)) x1))) (am_N I J))))))))) : am_wp X (d + 2) 39 5 [.ref 83, .int x0, .int x1, .int l, .int m, u5] [] (am_N I J) Q := s39_5 (s39_7 (s39_10 (fun h3194 => have k := k.1 h3194; s39_60 (s39_61 (k))) (fun h3194 => have k := k.2 h3194; s39_13 (s39_14 k0_83 p0_83_1 (s39_17 (have b3195 := k.1; have k := k.2; s39_19 k0_84 b3195 (s39_20 (Nat.le_of_ble_eq_true rfl) (w_bitCount (am_aft (s39_23 rfl (s39_25 (s39_26 (s39_28 (fun h3196 => have k := k.1 h3196; s39_49 (s39_50 (s39_52 (s39_53 rfl (s39_54 rfl (s39_57 (k))))))) (fun h3196 => have k := k.2 h3196; s39_31 (s39_33 (s39_34 k0_83 p0_83_1 (s39_37 (have b3197 := k.1; have k := k.2; s39_39 k0_84 b3197 (s39_40 (s39_41 (Nat.le_of_ble_eq_true rfl) (w_40 k.1 (fun b3198 h1 => have k := k.2 b3198 h1; am_aft (s39_44 (s39_45 (Nat.le_of_ble_eq_true rfl) (w_partOfGuess (am_aft (s39_48 (k))))))))))))))))))))))))))))
def t39 (I : Nat → Nat → Int32) (x0 : Int32) (c b : Nat) : Prop := c < 576 ∧ b < 24 ∧ tb (I 84 c) b = true ∧ x0 = Int32.ofInt ((fc (I 84) c + pcn (I 84 c) b : Nat) : Int)
def p39 (I : Nat → Nat → Int32) (x0 : Int32) : Prop := (∃ c b, t39 I x0 c b) ∧ ∀ q, q < 576 → M24 (I 84 q)
theorem w_39 {X : am_X} {d : Nat} {I : Nat → Nat → Int32} {J : Nat → Nat → Int64} {Q : Option Value → am_M → Prop} {x0 x1 : Int32} (h : p39 I x0) (k : ∀ c b, t39 I x0 c b → Q (some (.int (v_partOfGuess (Int32.ofInt (c : Int)) (Int32.ofInt (b : Int)) x1))) (am_N I J)) : am_wp X (d + 2) 39 0 [.ref 83, .int x0, .int x1, am_uv, am_uv, am_uv] [] (am_N I J) Q := by
  obtain ⟨⟨c, b, h⟩, hM⟩ := h
  have kk := k c b h
  obtain ⟨c1, b1, b2, b3⟩ := h
  have lc := fc_le (I 84) c
  have lb := pcn_le (I 84 c) b
  have l24 := pcn_lt (I 84 c) b1 b2
  refine c_39 ?_
  refine am_down (N := c) (P := fun m => ∀ (l : Int32) (u5 : Value), u5.category = 1 → l = Int32.ofInt ((fc (I 84) c + pcn (I 84 c) b - fc (I 84) m : Nat) : Int) → am_wp X (d + 2) 39 5 [.ref 83, .int x0, .int x1, .int l, .int (Int32.ofInt (m : Int)), u5] [] (am_N I J) Q) ?_ ?_ 0 (by omega) x0 am_uv rfl b3
  · intro l u5 h5 hl
    have ix : am_ix (Int32.ofInt (c : Int)) 576 := oi_ix (by omega) (by omega) (by omega)
    have el : l = Int32.ofInt (pcn (I 84 c) b : Int) := by
      rw [hl]
      congr 2
      omega
    refine c_39_5 h5 ⟨fun q => absurd q (by rw [show (576 : Int32) = Int32.ofInt 576 from rfl, oi_le (by omega) (by omega)]; omega), fun _ => ?_⟩
    rw [oi_cln (by omega), bitCount_24 (hM c c1)]
    have p24 := pcn_le (I 84 c) 24
    refine ⟨ix, fun q => absurd q (by rw [el, oi_le (by omega) (by omega)]; omega), fun _ => ⟨ix, ⟨⟨b, b1, b2, el⟩, fun b' hb' => ?_⟩⟩⟩
    obtain ⟨d1, d2, d3⟩ := hb'
    have p25 := pcn_le (I 84 c) b'
    have : b = b' := by
      refine pcn_inj b2 d2 ?_
      rw [el, oi_eq (by omega) (by omega)] at d3
      omega
    rw [← this]
    exact kk
  · intro m hm ih l u5 h5 hl
    have ix : am_ix (Int32.ofInt (m : Int)) 576 := oi_ix (by omega) (by omega) (by omega)
    have fm := fc_mono (I 84) (show m + 1 ≤ c by omega)
    have e1 : fc (I 84) (m + 1) = fc (I 84) m + pcn (I 84 m) 24 := rfl
    have p24 := pcn_le (I 84 m) 24
    refine c_39_5 h5 ⟨fun q => absurd q (by rw [show (576 : Int32) = Int32.ofInt 576 from rfl, oi_le (by omega) (by omega)]; omega), fun _ => ?_⟩
    rw [oi_cln (by omega), bitCount_24 (hM m (by omega)), oi_succ]
    refine ⟨ix, fun q => ih _ _ rfl ?_, fun q => absurd (by rw [hl, oi_le (by omega) (by omega)]; omega) q⟩
    rw [hl, oi_subn (by omega)]
    congr 2
    omega
theorem part_eq {I : Nat → Nat → Int32} {c b : Nat} (hc : c < 576) (hb : b < 24) (w : Int32) : v_part (m_lay I (gn c b)) w = v_partOfGuess (Int32.ofInt (c : Int)) (Int32.ofInt (b : Int)) w := by
  obtain ⟨x1, x2, x3, x4, x5⟩ := gn_at hc hb
  obtain ⟨y1, y2, y3⟩ := cn_at hc
  obtain ⟨⟨z1, z2, z3, z4, z5⟩, -⟩ := lay_at I (gn c b)
  have e4 : Int32.ofInt (b : Int) / 2 + 1 = Int32.ofInt ((b / 2 + 1 : Nat) : Int) := by
    rw [show (2 : Int32) = Int32.ofInt 2 from rfl, show (1 : Int32) = Int32.ofInt 1 from rfl, oi_div (by omega) (by omega) (by omega) (by omega), oi_add]
    congr 1
  have e5 : am_rem (Int32.ofInt (b : Int)) 2 = Int32.ofInt ((b % 2 : Nat) : Int) := by
    rw [show (2 : Int32) = Int32.ofInt 2 from rfl, oi_rem (by omega) (by omega) (by omega) (by omega)]
    congr 1
  unfold v_part v_partOfGuess
  rw [z1, z2, z3, z4, z5, x1, x2, x3, x4, x5, y1, y2, y3, e4, e5]
theorem fk.m {I I1 : Nat → Nat → Int32} (h : fk I I1) : ∀ q, q < 576 → M24 (I1 84 q) := fun q hq => by rw [h.2.1 q hq]; exact M24.ft
theorem c_95 {X : am_X} {d : Nat} {I : Nat → Nat → Int32} {J : Nat → Nat → Int64} {Q : Option Value → am_M → Prop} {x0 : Int32} {x1 : Int32} (hI : Inv I) (k : ((Inv I ∧ Wf I ∧ Cf I) ∧ ∀ (I3199 : Nat → Nat → Int32), fk I I3199 → ((x0 < 0 → Q (some (.int (-1))) (am_N I3199 J)) ∧ (¬ x0 < 0 → ((x0 < (I3199 83 4) → (((v_isWithin x1 0 4) = 0 → Q (some (.int (-2))) (am_N I3199 J)) ∧ (¬ (v_isWithin x1 0 4) = 0 → (p39 I3199 x0 ∧ ∀ c3203 b3204 : Nat, t39 I3199 x0 c3203 b3204 → Q (some (.int (v_partOfGuess (Int32.ofInt (c3203 : Int)) (Int32.ofInt (b3204 : Int)) x1))) (am_N I3199 J))))) ∧ (¬ x0 < (I3199 83 4) → Q (some (.int (-1))) (am_N I3199 J))))))) : am_wp X (d + 6) 95 0 [.ref 0, .int x0, .int x1] [] (am_N I J) Q := s95_0 (s95_1 k0_0 p0_0_2 (s95_4 k0_83 (Nat.le_of_ble_eq_true rfl) (w_36f k.1.1 k.1.2.1 k.1.2.2 (fun I3199 h1 => have k := k.2 I3199 h1; am_aft0 (s95_7 (s95_8 (fun h3200 => have k := k.1 h3200; s95_22 (s95_23 (k))) (fun h3200 => have k := k.2 h3200; s95_11 (s95_12 (s95_13 k0_0 p0_0_2 (s95_16 k0_83 (s95_19 (fun h3201 => have k := k.1 h3201; s95_24 (s95_25 (s95_26 (s95_27 (Nat.le_of_ble_eq_true rfl) (w_isWithin (am_aft (s95_30 (fun h3202 => have k := k.1 h3202; s95_45 (s95_47 (k))) (fun h3202 => have k := k.2 h3202; s95_33 (s95_34 k0_0 p0_0_2 (s95_37 (s95_38 (s95_39 k0_83 (Nat.le_of_ble_eq_true rfl) (w_39 k.1 (fun c3203 b3204 h1 => have k := k.2 c3203 b3204 h1; am_aft (s95_42 (s95_47 (k))))))))))))))))) (fun h3201 => have k := k.2 h3201; s95_22 (s95_23 (k))))))))))))))
theorem c2_198 {X : am_X} {d : Nat} {I : Nat → Nat → Int32} {J : Nat → Nat → Int64} {Q : Option Value → am_M → Prop} {x0 : Int32} {x1 : Int32} (k : ((Inv I ∧ Wf I) ∧ ∀ (I3205 : Nat → Nat → Int32), fl I I3205 → ((x0 < 0 → Q (some (.int (-1))) (am_N I3205 J)) ∧ (¬ x0 < 0 → ((x0 < (I3205 105 43) → (((v_within x1 0 4) = 0 → Q (some (.int (-2))) (am_N I3205 J)) ∧ (¬ (v_within x1 0 4) = 0 → (am_ix x0 13824 ∧ Q (some (.int (v_part (m_lay I3205 (I3205 136 (Int32.toNatClampNeg x0))) x1))) (am_N (m_lay I3205 (I3205 136 (Int32.toNatClampNeg x0))) J))))) ∧ (¬ x0 < (I3205 105 43) → Q (some (.int (-1))) (am_N I3205 J))))))) : am_wp X (d + 5) 198 0 [.ref 105, .int x0, .int x1] [] (am_N I J) Q := s198_0 (s198_1 k0_105 (Nat.le_of_ble_eq_true rfl) (w_195 k.1.1 k.1.2 (fun I3205 h1 => have k := k.2 I3205 h1; am_aft0 (s198_4 (s198_5 (fun h3206 => have k := k.1 h3206; s198_16 (s198_17 (k))) (fun h3206 => have k := k.2 h3206; s198_8 (s198_9 (s198_10 k0_105 (s198_13 (fun h3207 => have k := k.1 h3207; s198_18 (s198_19 (s198_20 (s198_21 (Nat.le_of_ble_eq_true rfl) (w_within (am_aft (s198_24 (fun h3208 => have k := k.1 h3208; s198_27 (s198_29 (k))) (fun h3208 => have k := k.2 h3208; s198_30 (s198_31 (s198_32 k0_105 p0_105_42 (s198_35 (have b3209 := k.1; have k := k.2; s198_36 k0_136 b3209 (s198_37 k0_105 (Nat.le_of_ble_eq_true rfl) (w_lay (am_aft0 (s198_40 (s198_41 (s198_42 k0_105 (Nat.le_of_ble_eq_true rfl) (w_part (am_aft (s198_45 (k)))))))))))))))))))))) (fun h3207 => have k := k.2 h3207; s198_16 (s198_17 (k))))))))))))
theorem e_95 {X : am_X} {d : Nat} {I : Nat → Nat → Int32} {J : Nat → Nat → Int64} {Q : Option Value → am_M → Prop} {x0 : Int32} {x1 : Int32} (hI : Inv I) (hw : Wf I) (hc : Cf I) (k : ∀ (r : Int32) (I1 : Nat → Nat → Int32) (J1 : Nat → Nat → Int64), Md 198 5 [.ref 105, .int x0, .int x1] (fun v => v = .int r) I1 → Q (some (.int r)) (am_N I1 J1)) : am_wp X (d + 6) 95 0 [.ref 0, .int x0, .int x1] [] (am_N I J) Q := by
  refine c_95 hI ⟨⟨hI, hw, hc⟩, fun I1 h1 => ?_⟩
  have hI1 : Inv I1 := hI.sm h1.1.1.sm
  have hw1 := h1.v.wf hw
  have sq := h1.v.q hI
  have e43 : ∀ I2, fl I1 I2 → I2 105 43 = I1 83 4 := fun I2 h2 => many_fit hI hw h1 h2
  have lf := fcn_le I 576
  refine ⟨fun q => k _ _ _ (fun X d J Q k' => c2_198 ⟨⟨hI1, hw1⟩, fun I2 h2 => ⟨fun _ => k' _ _ _ rfl h2.1.2, fun q' => absurd q q'⟩⟩), fun q => ⟨fun w => ⟨fun z => k _ _ _ (fun X d J Q k' => c2_198 ⟨⟨hI1, hw1⟩, fun I2 h2 => ⟨fun q' => absurd q' q, fun _ => ⟨fun _ => ⟨fun _ => k' _ _ _ rfl h2.1.2, fun z' => absurd z z'⟩, fun w' => absurd (by rw [e43 I2 h2]; exact w) w'⟩⟩⟩), fun z => ?_⟩, fun w => k _ _ _ (fun X d J Q k' => c2_198 ⟨⟨hI1, hw1⟩, fun I2 h2 => ⟨fun q' => absurd q' q, fun _ => ⟨fun w' => absurd (by rw [← e43 I2 h2]; exact w') w, fun _ => k' _ _ _ rfl h2.1.2⟩⟩⟩)⟩⟩
  obtain ⟨n, hn, n1, n2⟩ := oi_of x0
  have q' : ¬ x0 < Int32.ofInt 0 := q
  rw [hn, oi_lt (by omega) (by omega)] at q'
  have w' := w
  rw [h1.2.2, hn, oi_lt (by omega) (by omega)] at w'
  have e84 : fc (I1 84) 576 = fcn I 576 := fc_eq 576 (fun c hc => h1.2.1 c hc)
  obtain ⟨c, b, c1, b1, b2, b3⟩ := fc_split (f := I1 84) (n := n.toNat) 576 (by omega)
  have x0e : x0 = Int32.ofInt ((fc (I1 84) c + pcn (I1 84 c) b : Nat) : Int) := by
    rw [b3, hn]
    congr 1
    omega
  refine ⟨⟨⟨c, b, c1, b1, b2, x0e⟩, h1.m⟩, fun c b t => ?_⟩
  obtain ⟨c1, b1, b2, b3⟩ := t
  refine k _ _ _ (fun X d J Q k' => c2_198 ⟨⟨hI1, hw1⟩, fun I2 h2 => ⟨fun q' => absurd q' q, fun _ => ⟨fun _ => ⟨fun z' => absurd z' z, fun _ => ?_⟩, fun w' => absurd (by rw [e43 I2 h2]; exact w) w'⟩⟩⟩)
  have e1 : fc (I1 84) c = fcn I1 c := fc_eq c (fun q hq => (h1.2.1 q (by omega)).trans (sq.bit q).symm)
  have eb : I1 84 c = fbit I1 c := (h1.2.1 c c1).trans (sq.bit c).symm
  have cg : cgn I1 (24 * c + b) = fc (I1 84) c + pcn (I1 84 c) b := by
    rw [cgn_cell hI1 hw1 c1 (cgn_fcn hI1 hw1 c (by omega)) b (by omega), e1, eb]
  have gf : gfn I1 (24 * c + b) = true := by
    rw [← bit_fn hI1 hw1 c1 b1, ← eb]
    exact b2
  have l1 := fc_le (I1 84) c
  have l2 := pcn_le (I1 84 c) b
  have cl0 : Int32.toNatClampNeg x0 = cgn I1 (24 * c + b) := by rw [b3, cg, oi_cln (by omega)]
  have g136 : I2 136 (Int32.toNatClampNeg x0) = gn c b := by
    rw [cl0]
    exact h2.2.2.1 _ (by omega) gf
  rw [g136, part_eq c1 b1]
  refine ⟨?_, k' _ _ _ rfl (h2.1.2.lay (gn_gR c1 b1))⟩
  rw [b3]
  exact oi_ix (by omega) (by omega) (by omega)
