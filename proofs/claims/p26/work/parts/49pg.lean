theorem c_212 {X : am_X} {d : Nat} {I : Nat → Nat → Int32} {J : Nat → Nat → Int64} {Q : Option Value → am_M → Prop} {x0 : Int32} (k : am_wp X (d + 1) 212 2 [.ref 105, .int x0, .int 0, am_uv] [] (am_N I J) Q) : am_wp X (d + 1) 212 0 [.ref 105, .int x0, am_uv, am_uv] [] (am_N I J) Q := s212_0 (s212_1 rfl (k))
theorem c_212_2 {X : am_X} {d : Nat} {I : Nat → Nat → Int32} {J : Nat → Nat → Int64} {Q : Option Value → am_M → Prop} {x0 m : Int32} {u3 : Value} (hu3 : u3.category = 1) (k : (((I 105 26) ≤ m → Q (some (.int 1)) (am_N I J)) ∧ (¬ (I 105 26) ≤ m → (am_ix m 40 ∧ (((I 132 (Int32.toNatClampNeg m)) = 0 → (am_ix m 40 ∧ (((I 128 (Int32.toNatClampNeg m)) = 0 → (am_ix m 40 ∧ (((I 131 (Int32.toNatClampNeg m)) = (-1) → (am_ix m 40 ∧ (((I 129 (Int32.toNatClampNeg m)) = x0 → am_wp X (d + 1) 212 2 [.ref 105, .int x0, .int (m + 1), .int 0] [] (am_N I J) Q) ∧ (¬ (I 129 (Int32.toNatClampNeg m)) = x0 → (am_ix m 40 ∧ (am_ix (I 129 (Int32.toNatClampNeg m)) 8 ∧ (((I 134 (Int32.toNatClampNeg (I 129 (Int32.toNatClampNeg m)))) = 8 → am_wp X (d + 1) 212 2 [.ref 105, .int x0, .int (m + 1), .int 1] [] (am_N I J) Q) ∧ (¬ (I 134 (Int32.toNatClampNeg (I 129 (Int32.toNatClampNeg m)))) = 8 → (am_ix (I 129 (Int32.toNatClampNeg m)) 8 ∧ (am_ix (I 129 (Int32.toNatClampNeg m)) 8 ∧ (((I 133 (Int32.toNatClampNeg (I 129 (Int32.toNatClampNeg m)))) < (I 109 (Int32.toNatClampNeg (I 129 (Int32.toNatClampNeg m)))) → am_wp X (d + 1) 212 2 [.ref 105, .int x0, .int (m + 1), .int 1] [] (am_N I J) Q) ∧ (¬ (I 133 (Int32.toNatClampNeg (I 129 (Int32.toNatClampNeg m)))) < (I 109 (Int32.toNatClampNeg (I 129 (Int32.toNatClampNeg m)))) → (am_ix (I 129 (Int32.toNatClampNeg m)) 8 ∧ (((I 134 (Int32.toNatClampNeg (I 129 (Int32.toNatClampNeg m)))) = (-1) → am_wp X (d + 1) 212 2 [.ref 105, .int x0, .int (m + 1), .int 1] [] (am_N I J) Q) ∧ (¬ (I 134 (Int32.toNatClampNeg (I 129 (Int32.toNatClampNeg m)))) = (-1) → Q (some (.int 0)) (am_N I J)))))))))))))))) ∧ (¬ (I 131 (Int32.toNatClampNeg m)) = (-1) → am_wp X (d + 1) 212 2 [.ref 105, .int x0, .int (m + 1), .int 0] [] (am_N I J) Q)))) ∧ (¬ (I 128 (Int32.toNatClampNeg m)) = 0 → am_wp X (d + 1) 212 2 [.ref 105, .int x0, .int (m + 1), .int 0] [] (am_N I J) Q)))) ∧ (¬ (I 132 (Int32.toNatClampNeg m)) = 0 → am_wp X (d + 1) 212 2 [.ref 105, .int x0, .int (m + 1), .int 0] [] (am_N I J) Q)))))) : am_wp X (d + 1) 212 2 [.ref 105, .int x0, .int m, u3] [] (am_N I J) Q := s212_2 (s212_3 (s212_4 k0_105 (s212_7 (fun h3117 => have k := k.1 h3117; s212_80 (s212_81 (Or.inr rfl) (k))) (fun h3117 => have k := k.2 h3117; s212_10 (s212_11 k0_105 p0_105_31 (s212_14 (have b3118 := k.1; have k := k.2; s212_15 k0_132 b3118 (s212_16 (fun h3119 => have k := k.1 h3119; s212_19 (s212_20 k0_105 p0_105_27 (s212_23 (have b3120 := k.1; have k := k.2; s212_24 k0_128 b3120 (s212_25 (fun h3121 => have k := k.1 h3121; s212_28 (s212_29 k0_105 p0_105_30 (s212_32 (have b3122 := k.1; have k := k.2; s212_33 k0_131 b3122 (s212_34 (s212_35 (fun h3123 => have k := k.1 h3123; s212_38 (s212_39 k0_105 p0_105_28 (s212_42 (have b3124 := k.1; have k := k.2; s212_43 k0_129 b3124 (s212_44 (s212_45 (fun h3125 => have k := k.1 h3125; s212_52 (s212_53 rfl (s212_54 (s212_55 (fun _ => s212_74 rfl (s212_77 (k))) (fun h => absurd (show (0 : Int32) = 0 by decide) h))))) (fun h3125 => have k := k.2 h3125; s212_48 (s212_49 (s212_53 rfl (s212_54 (s212_55 (fun h => absurd h (show ¬ (1 : Int32) = 0 by decide)) (fun _ => s212_58 (s212_59 (s212_60 k0_105 p0_105_28 (s212_63 (have b3128 := k.1; have k := k.2; s212_64 k0_129 b3128 (s212_65 k0_105 (Nat.le_of_ble_eq_true rfl) (s190_0 (s190_1 k0_105 p0_105_38 (s190_4 (have b3129 := k.1; have k := k.2; s190_5 k0_134 b3129 (s190_6 (s190_8 (fun h3130 => have k := k.1 h3130; s190_35 (s190_36 (am_aft (s212_68 (s212_69 (fun _ => s212_74 rfl (s212_77 (k))) (fun h => absurd (show ((-1) : Int32) = (-1) by decide) h)))))) (fun h3130 => have k := k.2 h3130; s190_11 (s190_12 k0_105 p0_105_37 (s190_15 (have b3132 := k.1; have k := k.2; s190_16 k0_133 b3132 (s190_17 (s190_18 k0_105 p0_105_6 (s190_21 (have b3133 := k.1; have k := k.2; s190_22 k0_109 b3133 (s190_23 (fun h3134 => have k := k.1 h3134; s190_35 (s190_36 (am_aft (s212_68 (s212_69 (fun _ => s212_74 rfl (s212_77 (k))) (fun h => absurd (show ((-1) : Int32) = (-1) by decide) h)))))) (fun h3134 => have k := k.2 h3134; s190_26 (s190_27 k0_105 p0_105_38 (s190_30 (have b3136 := k.1; have k := k.2; s190_31 k0_134 b3136 (s190_32 (s190_36 (am_aft (s212_68 (s212_69 (fun h3137 => have k := k.1 h3137; s212_74 rfl (s212_77 (k))) (fun h3137 => have k := k.2 h3137; s212_72 (s212_73 (Or.inl rfl) (k)))))))))))))))))))))))))))))))))))))))))))) (fun h3123 => have k := k.2 h3123; s212_52 (s212_53 rfl (s212_54 (s212_55 (fun _ => s212_74 rfl (s212_77 (k))) (fun h => absurd (show (0 : Int32) = 0 by decide) h))))))))))) (fun h3121 => have k := k.2 h3121; s212_52 (s212_53 rfl (s212_54 (s212_55 (fun _ => s212_74 rfl (s212_77 (k))) (fun h => absurd (show (0 : Int32) = 0 by decide) h)))))))))) (fun h3119 => have k := k.2 h3119; s212_52 (s212_53 rfl (s212_54 (s212_55 (fun _ => s212_74 rfl (s212_77 (k))) (fun h => absurd (show (0 : Int32) = 0 by decide) h)))))))))))))
/-! A GUESS by its number -/
def gX (g : Int32) : Int32 := g / 1152
def gY (g : Int32) : Int32 := am_rem (g / 96) 12
def gZ (g : Int32) : Int32 := am_rem (g / 24) 4
def gS (g : Int32) : Int32 := am_rem (g / 2) 12 + 1
def gD (g : Int32) : Int32 := am_rem g 2
def g_far (I : Nat → Nat → Int32) (g : Int32) (h : Nat) : Int32 := v_m_farOf (I 107 h - gX g) (I 108 h - gY g) (gZ g)
def g_way (I : Nat → Nat → Int32) (g : Int32) (h : Nat) : Int32 := v_m_wayOf (I 107 h - gX g) (I 108 h - gY g) (gD g)
def g_so (I : Nat → Nat → Int32) (g : Int32) (r : Nat) : Bool := r_so (I 128 r) (I 131 r) ((240 * gS g) / (12 + g_far I g (rr_h I r))) (g_way I g (rr_h I r)) (I 109 (rr_h I r)) (I 110 (rr_h I r)) (I 115 (rr_p I r)) (I 116 (rr_p I r))
def g_fr (I : Nat → Nat → Int32) (g : Int32) (r : Nat) : Int32 := ((I 131 r - I 111 (rr_h I r)) - I 112 (rr_h I r)) - v_rt (4 * g_far I g (rr_h I r))
def g_tl (I : Nat → Nat → Int32) (g : Int32) (r : Nat) : Int32 := ((I 131 r - I 111 (rr_h I r)) + I 112 (rr_h I r)) - v_rt (4 * g_far I g (rr_h I r))
/-- the reference's guess has changed alone -/
def gz (I I' : Nat → Nat → Int32) : Prop := ∀ a k, ¬ (a = 105 ∧ 32 ≤ k ∧ k ≤ 41) → ¬ (133 ≤ a ∧ a ≤ 135) → I' a k = I a k
theorem gz.rf {I : Nat → Nat → Int32} : gz I I := fun _ _ _ _ => rfl
theorem gz.tr {I I' I'' : Nat → Nat → Int32} (h : gz I I') (h' : gz I' I'') : gz I I'' := fun a k p q => (h' a k p q).trans (h a k p q)
def gl (I I' : Nat → Nat → Int32) (g : Int32) : Prop := gz I I' ∧ (I' 105 32 = gX g ∧ I' 105 33 = gY g ∧ I' 105 34 = gZ g ∧ I' 105 35 = gS g ∧ I' 105 36 = gD g) ∧ ∀ h, h < hk I → I' 133 h = (240 * gS g) / (12 + g_far I g h) ∧ I' 134 h = g_way I g h ∧ I' 135 h = v_rt (4 * g_far I g h)
theorem lay_at (I : Nat → Nat → Int32) (g : Int32) : (m_lay I g 105 32 = gX g ∧ m_lay I g 105 33 = gY g ∧ m_lay I g 105 34 = gZ g ∧ m_lay I g 105 35 = gS g ∧ m_lay I g 105 36 = gD g) ∧ ∀ a k, ¬ (a = 105 ∧ 32 ≤ k ∧ k ≤ 36) → m_lay I g a k = I a k := by
  unfold m_lay
  refine ⟨⟨?_, ?_, ?_, ?_, ?_⟩, fun a k q => ?_⟩
  · rw [am_upv, if_pos (by omega)]
    rfl
  · rw [am_upv, if_neg (by omega), am_upv, if_pos (by omega)]
    rfl
  · rw [am_upv, if_neg (by omega), am_upv, if_neg (by omega), am_upv, if_pos (by omega)]
    rfl
  · rw [am_upv, if_neg (by omega), am_upv, if_neg (by omega), am_upv, if_neg (by omega), am_upv, if_pos (by omega)]
    rfl
  · rw [am_upv, if_neg (by omega), am_upv, if_neg (by omega), am_upv, if_neg (by omega), am_upv, if_neg (by omega), am_upv, if_pos (by omega)]
    rfl
  · rw [am_upv, if_neg (by omega), am_upv, if_neg (by omega), am_upv, if_neg (by omega), am_upv, if_neg (by omega), am_upv, if_neg (by omega)]
theorem lk.gl {I I1 I' : Nat → Nat → Int32} {g : Int32} (h : lk I I1 g) (h' : dz I1 I') : gl I I' g := by
  obtain ⟨h1, h2⟩ := h
  obtain ⟨⟨x1, x2, x3, x4, x5⟩, x6⟩ := lay_at I g
  refine ⟨fun a k p q => ?_, ⟨?_, ?_, ?_, ?_, ?_⟩, fun h hh => ?_⟩
  · rw [h' a k (by omega), h1 a k (by omega), x6 a k (by omega)]
  · rw [h' 105 32 (by omega), h1 105 32 (by omega), x1]
  · rw [h' 105 33 (by omega), h1 105 33 (by omega), x2]
  · rw [h' 105 34 (by omega), h1 105 34 (by omega), x3]
  · rw [h' 105 35 (by omega), h1 105 35 (by omega), x4]
  · rw [h' 105 36 (by omega), h1 105 36 (by omega), x5]
  · have g2 := h2 h hh
    unfold l_far l_way at g2
    rw [x1, x2, x3, x4, x5, x6 107 h (by omega), x6 108 h (by omega)] at g2
    rw [h' 133 h (by omega), h' 134 h (by omega), h' 135 h (by omega)]
    exact g2
theorem gl.inv {I I' : Nat → Nat → Int32} {g : Int32} (h : gl I I' g) (hI : Inv I) (hg : gR g 0 13823) : Inv I' := by
  refine (hI.lay hg).sm (fun a k q => ?_)
  obtain ⟨⟨x1, x2, x3, x4, x5⟩, x6⟩ := lay_at I g
  obtain ⟨y0, ⟨y1, y2, y3, y4, y5⟩, -⟩ := h
  by_cases hc : a = 105 ∧ 32 ≤ k ∧ k ≤ 36
  · obtain ⟨rfl, p1, p2⟩ := hc
    have : k = 32 ∨ k = 33 ∨ k = 34 ∨ k = 35 ∨ k = 36 := by omega
    rcases this with rfl | rfl | rfl | rfl | rfl
    · rw [x1, y1]
    · rw [x2, y2]
    · rw [x3, y3]
    · rw [x4, y4]
    · rw [x5, y5]
  · rw [x6 a k hc]
    exact y0 a k (fun p => q (by unfold Sc; omega)) (fun p => q (by unfold Sc; omega))
theorem gz.rh {I I' : Nat → Nat → Int32} (h : gz I I') (r : Nat) : rr_h I' r = rr_h I r ∧ rr_p I' r = rr_p I r := by
  unfold rr_h rr_p
  rw [h 129 r (by omega) (by omega), h 130 r (by omega) (by omega)]
  exact ⟨rfl, rfl⟩
theorem gz.so {I I' : Nat → Nat → Int32} (h : gz I I') (g : Int32) (r : Nat) : g_so I' g r = g_so I g r ∧ g_fr I' g r = g_fr I g r ∧ g_tl I' g r = g_tl I g r := by
  obtain ⟨e1, e2⟩ := h.rh r
  unfold g_so g_fr g_tl g_far g_way
  rw [e1, e2, h 128 r (by omega) (by omega), h 131 r (by omega) (by omega), h 107 _ (by omega) (by omega), h 108 _ (by omega) (by omega), h 109 _ (by omega) (by omega), h 110 _ (by omega) (by omega), h 111 _ (by omega) (by omega), h 112 _ (by omega) (by omega), h 115 _ (by omega) (by omega), h 116 _ (by omega) (by omega)]
  exact ⟨rfl, rfl, rfl⟩
theorem gl.rs {I I' : Nat → Nat → Int32} {g : Int32} (h : gl I I' g) {r : Nat} (hr : rr_h I r < hk I) : rr_is I' r = g_so I g r ∧ rr_fr I' r = g_fr I g r ∧ rr_tl I' r = g_tl I g r := by
  obtain ⟨y0, -, y2⟩ := h
  obtain ⟨z1, z2, z3⟩ := y2 _ hr
  obtain ⟨e1, e2⟩ := y0.rh r
  unfold rr_is rr_fr rr_tl g_so g_fr g_tl
  rw [e1, e2, z1, z2, z3, y0 128 r (by omega) (by omega), y0 131 r (by omega) (by omega), y0 109 _ (by omega) (by omega), y0 110 _ (by omega) (by omega), y0 111 _ (by omega) (by omega), y0 112 _ (by omega) (by omega), y0 115 _ (by omega) (by omega), y0 116 _ (by omega) (by omega)]
  exact ⟨rfl, rfl, rfl⟩
theorem Inv.rq {I : Nat → Nat → Int32} (h : Inv I) {r : Nat} (hr : r < 40) : rr_h I r = q_h I r := by
  have g := h.2.2.2.2.2.2.1 r hr
  unfold rr_h q_h
  rw [g.1.2.1]
theorem Inv.rhk {I : Nat → Nat → Int32} (h : Inv I) (hw : Wf I) {r : Nat} (hr : r < bk I) : rr_h I r < hk I := by
  obtain ⟨h1, h2⟩ := h.lb hr
  obtain ⟨w1, w2, w3, -⟩ := (hw r h1 h2).hp
  rw [h.rq h1]
  obtain ⟨e, l⟩ := h.hk8
  rw [← h.1.2, e, oi_lt (by omega) (by omega)] at w3
  omega
theorem Inv.bm {I : Nat → Nat → Int32} (h : Inv I) : I 105 26 = Int32.ofInt (bk I : Int) := by
  rw [h.2.2.2.2.2.1.2]
  exact h.book.1
theorem gz.book {I I' : Nat → Nat → Int32} (h : gz I I') : bk I' = bk I := by
  show Int32.toNatClampNeg (I' 35 2) = Int32.toNatClampNeg (I 35 2)
  rw [h 35 2 (by omega) (by omega)]
theorem gz.eA {I I' : Nat → Nat → Int32} (h : gz I I') (x y : Int32) (r : Nat) : gA I' x y r = gA I x y r := by
  unfold gA
  rw [h 132 r (by omega) (by omega), h 129 r (by omega) (by omega)]
theorem gz.eK {I I' : Nat → Nat → Int32} (h : gz I I') {A A' : Nat → Bool} (ha : ∀ r, A' r = A r) (r : Nat) : gK I' A' r = gK I A r := by
  unfold gK
  rw [h 128 r (by omega) (by omega), ha]
theorem gz.wf {I I' : Nat → Nat → Int32} (h : gz I I') (hw : Wf I) : Wf I' := by
  intro r hr hl
  rw [h 35 2 (by omega) (by omega)] at hl
  obtain ⟨⟨x, x1, x2, x3, x4⟩, x5⟩ := hw r hr hl
  unfold Wr
  rw [h (43 + r) 0 (by omega) (by omega), h (43 + r) 1 (by omega) (by omega), h (43 + r) 2 (by omega) (by omega), h (43 + r) 3 (by omega) (by omega), h 1 1 (by omega) (by omega)]
  refine ⟨⟨x, x1, x2, x3, fun q => ?_⟩, x5⟩
  have := x4 q
  unfold v_hasPillar at this ⊢
  rw [h (3 + 4 * x) 11 (by omega) (by omega)]
  exact this
def g_all (I : Nat → Nat → Int32) (g : Int32) (A : Nat → Bool) : Bool := ga (g_so I g) A (bk I)
def g_E (I : Nat → Nat → Int32) (g : Int32) (A : Nat → Bool) : Int32 := gE (g_fr I g) (gK I A) (bk I)
def g_L (I : Nat → Nat → Int32) (g : Int32) (A : Nat → Bool) : Int32 := gL (g_tl I g) (gK I A) (bk I)
def g_fit (I : Nat → Nat → Int32) (g : Int32) (A : Nat → Bool) : Bool := g_all I g A && !decide (g_L I g A < g_E I g A)
theorem gz.ft {I I' : Nat → Nat → Int32} (h : gz I I') (g : Int32) {A A' : Nat → Bool} (ha : ∀ r, A' r = A r) : g_all I' g A' = g_all I g A ∧ g_E I' g A' = g_E I g A ∧ g_L I' g A' = g_L I g A ∧ g_fit I' g A' = g_fit I g A := by
  have e1 : g_all I' g A' = g_all I g A := by
    unfold g_all
    rw [h.book]
    exact ga_cg _ (fun r _ => ha r) (fun r _ _ => (h.so g r).1)
  have e2 : g_E I' g A' = g_E I g A := by
    unfold g_E
    rw [h.book]
    exact gE_cg _ (fun r _ => h.eK ha r) (fun r _ _ => (h.so g r).2.1)
  have e3 : g_L I' g A' = g_L I g A := by
    unfold g_L
    rw [h.book]
    exact gL_cg _ (fun r _ => h.eK ha r) (fun r _ _ => (h.so g r).2.2)
  refine ⟨e1, e2, e3, ?_⟩
  unfold g_fit
  rw [e1, e2, e3]
theorem w_194 {X : am_X} {d : Nat} {I : Nat → Nat → Int32} {J : Nat → Nat → Int64} {Q : Option Value → am_M → Prop} {x0 x1 x2 : Int32} (hI : Inv I) (hw : Wf I) (hg : gR x0 0 13823) (k : ∀ I' : Nat → Nat → Int32, gl I I' x0 → (g_all I x0 (gA I x1 x2) = true → I' 105 40 = g_E I x0 (gA I x1 x2) ∧ I' 105 41 = g_L I x0 (gA I x1 x2)) → Q (some (.int (bz (g_fit I x0 (gA I x1 x2))))) (am_N I' J)) : am_wp X (d + 3) 194 0 [.ref 105, .int x0, .int x1, .int x2, am_uv, am_uv] [] (am_N I J) Q := by
  refine c_194 ⟨⟨hI, hg⟩, fun I1 h1 => ?_⟩
  have d0 : dz I1 (am_up (am_up I1 105 40 0) 105 41 1000000) := fun a k q => by rw [am_upv, if_neg (by omega), am_upv, if_neg (by omega)]
  have l0 := h1.gl d0
  have i0 := l0.inv hI hg
  have c40 : am_up (am_up I1 105 40 0) 105 41 1000000 105 40 = 0 := by rw [am_upv, if_neg (by omega), am_upv, if_pos (by omega)]
  have c41 : am_up (am_up I1 105 40 0) 105 41 1000000 105 41 = 1000000 := by rw [am_upv, if_pos (by omega)]
  revert l0 i0 c40 c41
  generalize am_up (am_up I1 105 40 0) 105 41 1000000 = I2
  intro l0 i0 c40 c41
  have eA : ∀ r, gA I2 x1 x2 r = gA I x1 x2 r := fun r => l0.1.eA x1 x2 r
  have s1 : ga (rr_is I2) (gA I2 x1 x2) (bk I) = g_all I x0 (gA I x1 x2) := ga_cg _ (fun r _ => eA r) (fun r hr _ => (l0.rs (hI.rhk hw hr)).1)
  have s2 : gE (rr_fr I2) (gK I2 (gA I2 x1 x2)) (bk I) = g_E I x0 (gA I x1 x2) := gE_cg _ (fun r _ => l0.1.eK eA r) (fun r hr _ => (l0.rs (hI.rhk hw hr)).2.1)
  have s3 : gL (rr_tl I2) (gK I2 (gA I2 x1 x2)) (bk I) = g_L I x0 (gA I x1 x2) := gL_cg _ (fun r _ => l0.1.eK eA r) (fun r hr _ => (l0.rs (hI.rhk hw hr)).2.2)
  refine w_194a i0 hI.book.2 (by rw [l0.1 105 26 (by omega) (by omega)]; exact hI.bm) (fun I3 h3 h4 => ?_) 0 (by omega) I2 am_uv rfl (fun _ _ _ => rfl) rfl c40 c41
  rw [s1, s2, s3] at h4
  rw [s1, s2, s3]
  refine k I3 ⟨fun a k p q => (h3 a k (by omega)).trans (l0.1 a k p q), ?_, fun h hh => ?_⟩ h4
  · rw [h3 105 32 (by omega), h3 105 33 (by omega), h3 105 34 (by omega), h3 105 35 (by omega), h3 105 36 (by omega)]
    exact l0.2.1
  · rw [h3 133 h (by omega), h3 134 h (by omega), h3 135 h (by omega)]
    exact l0.2.2 h hh
def gQ (I : Nat → Nat → Int32) (x0 : Int32) (r : Nat) : Bool := if I 132 r = 0 then (if I 128 r = 0 then (if I 131 r = -1 then (if I 129 r = x0 then false else true) else false) else false) else false
theorem w_212 {X : am_X} {d : Nat} {I : Nat → Nat → Int32} {J : Nat → Nat → Int64} {Q : Option Value → am_M → Prop} {x0 : Int32} (hI : Inv I) (k : Q (some (.int (bz (ga (rr_is I) (gQ I x0) (bk I))))) (am_N I J)) : am_wp X (d + 1) 212 0 [.ref 105, .int x0, am_uv, am_uv] [] (am_N I J) Q := by
  have eb := hI.bm
  have lb := hI.book.2
  refine c_212 ?_
  refine am_down (N := bk I) (P := fun m => ∀ u3 : Value, u3.category = 1 → ga (rr_is I) (gQ I x0) m = true → am_wp X (d + 1) 212 2 [.ref 105, .int x0, .int (Int32.ofInt (m : Int)), u3] [] (am_N I J) Q) ?_ ?_ 0 (by omega) _ rfl rfl
  · intro u3 h3 hg
    rw [hg] at k
    exact c_212_2 h3 ⟨fun _ => k, fun q => absurd (by rw [eb]; exact Int32.le_refl _) q⟩
  · intro m hm ih u3 h3 hg
    have ix : am_ix (Int32.ofInt (m : Int)) 40 := oi_ix (by omega) (by omega) (by omega)
    have ixh : am_ix (I 129 m) 8 := by
      have := hI.ixMH (am_ix_lt ix)
      rwa [oi_cln (by omega)] at this
    have no : gQ I x0 m = false ∨ rr_is I m = true → ∀ u : Value, u.category = 1 → am_wp X (d + 1) 212 2 [.ref 105, .int x0, .int (Int32.ofInt (m : Int) + 1), u] [] (am_N I J) Q := by
      intro q u hu
      rw [oi_succ]
      refine ih u hu ?_
      show (ga (rr_is I) (gQ I x0) m && (!gQ I x0 m || rr_is I m)) = true
      rw [hg]
      rcases q with q | q
      · rw [q]
        rfl
      · rw [q]
        exact Bool.or_true _
    refine c_212_2 h3 ⟨fun q => absurd q (by rw [eb, oi_le (by omega) (by omega)]; omega), fun _ => ?_⟩
    rw [oi_cln (by omega)]
    refine ⟨ix, fun q => ⟨ix, fun w => ⟨ix, fun y => ⟨ix, fun z => no (Or.inl ((if_pos q).trans ((if_pos w).trans ((if_pos y).trans (if_pos z))))) _ rfl, fun z => ⟨ix, ixh, ?_⟩⟩, fun y => no (Or.inl ((if_pos q).trans ((if_pos w).trans (if_neg y)))) _ rfl⟩, fun w => no (Or.inl ((if_pos q).trans (if_neg w))) _ rfl⟩, fun q => no (Or.inl (if_neg q)) _ rfl⟩
    have ga1 : gQ I x0 m = true := (if_pos q).trans ((if_pos w).trans ((if_pos y).trans (if_neg z)))
    have er : rr_is I m = decide (r_drop (I 133 (rr_h I m)) (I 134 (rr_h I m)) (I 109 (rr_h I m)) = -1) := by
      unfold rr_is r_so
      rw [if_pos w, y]
    unfold r_drop rr_h at er
    refine ⟨fun p => no (Or.inr ?_) _ rfl, fun p => ⟨ixh, ixh, fun t => no (Or.inr ?_) _ rfl, fun t => ⟨ixh, fun s => no (Or.inr ?_) _ rfl, fun s => ?_⟩⟩⟩
    · rw [er, if_pos p]
      rfl
    · rw [er, if_neg p, if_pos t]
      rfl
    · rw [er, if_neg p, if_neg t, decide_eq_true s]
    · rw [if_neg p, if_neg t, decide_eq_false s] at er
      rw [ga_no hm ga1 er] at k
      exact k
