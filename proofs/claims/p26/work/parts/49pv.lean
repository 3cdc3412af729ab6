theorem c2_195 {X : am_X} {d : Nat} {I : Nat → Nat → Int32} {J : Nat → Nat → Int64} {Q : Option Value → am_M → Prop} (k : am_wp X (d + 4) 195 18 [.ref 105, .int 0] [] (am_N (am_up (am_up (am_up I 105 43 0) 105 44 1000000) 105 45 0) J) Q) : am_wp X (d + 4) 195 0 [.ref 105, am_uv] [] (am_N I J) Q := s195_0 (s195_1 (s195_2 k0_105 (s195_5 (s195_6 (s195_8 k0_105 (s195_11 (s195_12 (s195_13 k0_105 (s195_16 (s195_17 rfl (k)))))))))))
theorem c2_195_18 {X : am_X} {d : Nat} {I : Nat → Nat → Int32} {J : Nat → Nat → Int64} {Q : Option Value → am_M → Prop} {m : Int32} (k : ((13824 ≤ m → Q none (am_N I J)) ∧ (¬ 13824 ≤ m → ((Inv I ∧ Wf I ∧ gR m 0 13823) ∧ ∀ (I3183 : Nat → Nat → Int32), gl I I3183 m → (g_all I m (gA I (-9) (-9)) = true → I3183 105 40 = g_E I m (gA I (-9) (-9)) ∧ I3183 105 41 = g_L I m (gA I (-9) (-9))) → (((bz (g_fit I m (gA I (-9) (-9)))) = 0 → am_wp X (d + 4) 195 18 [.ref 105, .int (m + 1)] [] (am_N I3183 J) Q) ∧ (¬ (bz (g_fit I m (gA I (-9) (-9)))) = 0 → (am_ix (I3183 105 43) 13824 ∧ (((I3183 105 44) ≤ (I3183 105 40) → (((I3183 105 41) ≤ (I3183 105 45) → am_wp X (d + 4) 195 18 [.ref 105, .int (m + 1)] [] (am_N (am_up (am_up (am_up (am_up I3183 136 (Int32.toNatClampNeg (I3183 105 43)) m) 105 43 ((I3183 105 43) + 1)) 105 44 (I3183 105 44)) 105 45 (I3183 105 45)) J) Q) ∧ (¬ (I3183 105 41) ≤ (I3183 105 45) → am_wp X (d + 4) 195 18 [.ref 105, .int (m + 1)] [] (am_N (am_up (am_up (am_up (am_up I3183 136 (Int32.toNatClampNeg (I3183 105 43)) m) 105 43 ((I3183 105 43) + 1)) 105 44 (I3183 105 44)) 105 45 (I3183 105 41)) J) Q))) ∧ (¬ (I3183 105 44) ≤ (I3183 105 40) → (((I3183 105 41) ≤ (I3183 105 45) → am_wp X (d + 4) 195 18 [.ref 105, .int (m + 1)] [] (am_N (am_up (am_up (am_up (am_up I3183 136 (Int32.toNatClampNeg (I3183 105 43)) m) 105 43 ((I3183 105 43) + 1)) 105 44 (I3183 105 40)) 105 45 (I3183 105 45)) J) Q) ∧ (¬ (I3183 105 41) ≤ (I3183 105 45) → am_wp X (d + 4) 195 18 [.ref 105, .int (m + 1)] [] (am_N (am_up (am_up (am_up (am_up I3183 136 (Int32.toNatClampNeg (I3183 105 43)) m) 105 43 ((I3183 105 43) + 1)) 105 44 (I3183 105 40)) 105 45 (I3183 105 41)) J) Q))))))))))) : am_wp X (d + 4) 195 18 [.ref 105, .int m] [] (am_N I J) Q := s195_18 (s195_19 (s195_22 (fun h3182 => have k := k.1 h3182; s195_118 (k)) (fun h3182 => have k := k.2 h3182; s195_25 (s195_26 (s195_27 (s195_29 (s195_31 k0_105 (Nat.le_of_ble_eq_true rfl) (w_194 k.1.1 k.1.2.1 k.1.2.2 (fun I3183 h1 h2 => have k := k.2 I3183 h1 h2; am_aft (s195_34 (fun h3184 => have k := k.1 h3184; s195_37 (s195_112 rfl (s195_115 (k)))) (fun h3184 => have k := k.2 h3184; s195_40 (s195_41 k0_105 p0_105_42 (s195_44 (s195_45 k0_105 (s195_48 (have b3185 := k.1; have k := k.2; s195_49 k0_136 b3185 (s195_50 (s195_51 rfl (s195_52 k0_105 (s195_55 (s195_56 (s195_57 k0_105 (s195_60 (s195_61 (s195_62 k0_105 (s195_65 (s195_66 k0_105 (s195_69 (fun h3186 => have k := k.1 h3186; s195_79 (s195_80 k0_105 (s195_83 k0_105 (s195_86 (s195_87 (s195_88 k0_105 (s195_91 (s195_92 k0_105 (s195_95 (fun h3187 => have k := k.1 h3187; s195_105 (s195_106 k0_105 (s195_109 k0_105 (s195_112 rfl (s195_115 (k)))))) (fun h3187 => have k := k.2 h3187; s195_98 (s195_99 k0_105 (s195_102 (s195_109 k0_105 (s195_112 rfl (s195_115 (k)))))))))))))))) (fun h3186 => have k := k.2 h3186; s195_72 (s195_73 k0_105 (s195_76 (s195_83 k0_105 (s195_86 (s195_87 (s195_88 k0_105 (s195_91 (s195_92 k0_105 (s195_95 (fun h3188 => have k := k.1 h3188; s195_105 (s195_106 k0_105 (s195_109 k0_105 (s195_112 rfl (s195_115 (k)))))) (fun h3188 => have k := k.2 h3188; s195_98 (s195_99 k0_105 (s195_102 (s195_109 k0_105 (s195_112 rfl (s195_115 (k)))))))))))))))))))))))))))))))))))))))))))))
/-! THE REFERENCE SEEKS WHAT FITS -/
def gy (I I' : Nat → Nat → Int32) : Prop := ∀ a k, ¬ (a = 105 ∧ 32 ≤ k) → ¬ (133 ≤ a ∧ a ≤ 136) → I' a k = I a k
theorem gy.rf {I : Nat → Nat → Int32} : gy I I := fun _ _ _ _ => rfl
theorem gz.y {I I' : Nat → Nat → Int32} (h : gz I I') : gy I I' := fun a k p q => h a k (by omega) (by omega)
theorem gy.tr {I I' I'' : Nat → Nat → Int32} (h : gy I I') (h' : gy I' I'') : gy I I'' := fun a k p q => (h' a k p q).trans (h a k p q)
theorem gy.rh {I I' : Nat → Nat → Int32} (h : gy I I') (r : Nat) : rr_h I' r = rr_h I r ∧ rr_p I' r = rr_p I r := by
  unfold rr_h rr_p
  rw [h 129 r (by omega) (by omega), h 130 r (by omega) (by omega)]
  exact ⟨rfl, rfl⟩
theorem gy.so {I I' : Nat → Nat → Int32} (h : gy I I') (g : Int32) (r : Nat) : g_so I' g r = g_so I g r ∧ g_fr I' g r = g_fr I g r ∧ g_tl I' g r = g_tl I g r := by
  obtain ⟨e1, e2⟩ := h.rh r
  unfold g_so g_fr g_tl g_far g_way
  rw [e1, e2, h 128 r (by omega) (by omega), h 131 r (by omega) (by omega), h 107 _ (by omega) (by omega), h 108 _ (by omega) (by omega), h 109 _ (by omega) (by omega), h 110 _ (by omega) (by omega), h 111 _ (by omega) (by omega), h 112 _ (by omega) (by omega), h 115 _ (by omega) (by omega), h 116 _ (by omega) (by omega)]
  exact ⟨rfl, rfl, rfl⟩
theorem gy.book {I I' : Nat → Nat → Int32} (h : gy I I') : bk I' = bk I := by
  show Int32.toNatClampNeg (I' 35 2) = Int32.toNatClampNeg (I 35 2)
  rw [h 35 2 (by omega) (by omega)]
theorem gy.eA {I I' : Nat → Nat → Int32} (h : gy I I') (x y : Int32) (r : Nat) : gA I' x y r = gA I x y r := by
  unfold gA
  rw [h 132 r (by omega) (by omega), h 129 r (by omega) (by omega)]
theorem gy.eK {I I' : Nat → Nat → Int32} (h : gy I I') {A A' : Nat → Bool} (ha : ∀ r, A' r = A r) (r : Nat) : gK I' A' r = gK I A r := by
  unfold gK
  rw [h 128 r (by omega) (by omega), ha]
theorem gy.wf {I I' : Nat → Nat → Int32} (h : gy I I') (hw : Wf I) : Wf I' := by
  intro r hr hl
  rw [h 35 2 (by omega) (by omega)] at hl
  obtain ⟨⟨x, x1, x2, x3, x4⟩, x5⟩ := hw r hr hl
  unfold Wr
  rw [h (43 + r) 0 (by omega) (by omega), h (43 + r) 1 (by omega) (by omega), h (43 + r) 2 (by omega) (by omega), h (43 + r) 3 (by omega) (by omega), h 1 1 (by omega) (by omega)]
  refine ⟨⟨x, x1, x2, x3, fun q => ?_⟩, x5⟩
  have := x4 q
  unfold v_hasPillar at this ⊢
  rw [h (3 + 4 * x) 11 (by omega) (by omega)]
  exact this
theorem gy.ft {I I' : Nat → Nat → Int32} (h : gy I I') (g : Int32) {A A' : Nat → Bool} (ha : ∀ r, A' r = A r) : g_all I' g A' = g_all I g A ∧ g_E I' g A' = g_E I g A ∧ g_L I' g A' = g_L I g A ∧ g_fit I' g A' = g_fit I g A := by
  have e1 : g_all I' g A' = g_all I g A := by
    unfold g_all
    rw [h.book]
    exact ga_cg _ (fun r _ => ha r) (fun r _ _ => (h.so g r).1)
  have e2 : g_E I' g A' = g_E I g A := by
    unfold g_E
    rw [h.book]
    exact gE_cg _ (fun r _ => h.eK ha r) (fun r _ _ => (h.so g r).2.1)
  have e3 : g_L I' g A' = g_L I g A := by
    unfold g_L
    rw [h.book]
    exact gL_cg _ (fun r _ => h.eK ha r) (fun r _ _ => (h.so g r).2.2)
  refine ⟨e1, e2, e3, ?_⟩
  unfold g_fit
  rw [e1, e2, e3]
def gfn (I : Nat → Nat → Int32) (g : Nat) : Bool := g_fit I (Int32.ofInt (g : Int)) (gA I (-9) (-9))
def cgn (I : Nat → Nat → Int32) : Nat → Nat
  | 0 => 0
  | m + 1 => cgn I m + (if gfn I m = true then 1 else 0)
def tmn (I : Nat → Nat → Int32) : Nat → Int32
  | 0 => 1000000
  | m + 1 => if gfn I m = true then (if tmn I m ≤ g_E I (Int32.ofInt (m : Int)) (gA I (-9) (-9)) then tmn I m else g_E I (Int32.ofInt (m : Int)) (gA I (-9) (-9))) else tmn I m
def tmx (I : Nat → Nat → Int32) : Nat → Int32
  | 0 => 0
  | m + 1 => if gfn I m = true then (if g_L I (Int32.ofInt (m : Int)) (gA I (-9) (-9)) ≤ tmx I m then tmx I m else g_L I (Int32.ofInt (m : Int)) (gA I (-9) (-9))) else tmx I m
theorem cgn_le (I : Nat → Nat → Int32) : ∀ m, cgn I m ≤ m := by
  intro m
  induction m with
  | zero => exact Nat.le_refl 0
  | succ m ih =>
    show cgn I m + (if gfn I m = true then 1 else 0) ≤ m + 1
    split <;> omega
theorem cgn_mono (I : Nat → Nat → Int32) {a : Nat} : ∀ {b : Nat}, a ≤ b → cgn I a ≤ cgn I b := by
  intro b h
  induction h with
  | refl => exact Nat.le_refl _
  | step _ ih => exact Nat.le_trans ih (Nat.le_add_right _ _)
theorem cgn_lt (I : Nat → Nat → Int32) {a b : Nat} (h : a < b) (hf : gfn I a = true) : cgn I a < cgn I b := by
  have h1 := cgn_mono I (show a + 1 ≤ b from h)
  have h2 : cgn I (a + 1) = cgn I a + 1 := by
    show cgn I a + (if gfn I a = true then 1 else 0) = _
    rw [if_pos hf]
  omega
def fl (I I' : Nat → Nat → Int32) : Prop := (gy I I' ∧ Inv I') ∧ I' 105 43 = Int32.ofInt (cgn I 13824 : Int) ∧ (∀ g, g < 13824 → gfn I g = true → I' 136 (cgn I g) = Int32.ofInt (g : Int)) ∧ I' 105 44 = tmn I 13824 ∧ I' 105 45 = tmx I 13824
theorem w_195 {X : am_X} {d : Nat} {I : Nat → Nat → Int32} {J : Nat → Nat → Int64} {Q : Option Value → am_M → Prop} (hI : Inv I) (hw : Wf I) (k : ∀ I' : Nat → Nat → Int32, fl I I' → Q none (am_N I' J)) : am_wp X (d + 4) 195 0 [.ref 105, am_uv] [] (am_N I J) Q := by
  refine c2_195 ?_
  refine am_down (N := 13824) (P := fun m => ∀ I' : Nat → Nat → Int32, gy I I' → Inv I' → I' 105 43 = Int32.ofInt (cgn I m : Int) → (∀ g, g < m → gfn I g = true → I' 136 (cgn I g) = Int32.ofInt (g : Int)) → I' 105 44 = tmn I m → I' 105 45 = tmx I m → am_wp X (d + 4) 195 18 [.ref 105, .int (Int32.ofInt (m : Int))] [] (am_N I' J) Q) ?_ ?_ 0 (by omega) _ (fun a j p q => ?_) ((hI.up43.sm (sm.rf.up (by unfold Sc; omega))).sm (sm.rf.up (by unfold Sc; omega))) ?_ (fun g hg => absurd hg (by omega)) ?_ ?_
  · intro I' hs hi h43 hg h44 h45
    exact c2_195_18 ⟨fun _ => k I' ⟨⟨hs, hi⟩, h43, hg, h44, h45⟩, fun q => absurd (by decide) q⟩
  · intro m hm ih I' hs hi h43 hg h44 h45
    have hgm : gR (Int32.ofInt (m : Int)) 0 13823 := ⟨m, by omega, by omega, rfl⟩
    refine c2_195_18 ⟨fun q => absurd q (by rw [show (13824 : Int32) = Int32.ofInt 13824 from rfl, oi_le (by omega) (by omega)]; omega), fun _ => ⟨⟨hi, hs.wf hw, hgm⟩, fun I1 h1 h1t => ?_⟩⟩
    have i1 := h1.inv hi hgm
    have s1 : gy I I1 := hs.tr h1.1.y
    obtain ⟨t1, t2, t3, t4⟩ := hs.ft (Int32.ofInt (m : Int)) (A := gA I (-9) (-9)) (A' := gA I' (-9) (-9)) (fun r => hs.eA (-9) (-9) r)
    have e43 : I1 105 43 = Int32.ofInt (cgn I m : Int) := (h1.1 105 43 (by omega) (by omega)).trans h43
    have e44 : I1 105 44 = tmn I m := (h1.1 105 44 (by omega) (by omega)).trans h44
    have e45 : I1 105 45 = tmx I m := (h1.1 105 45 (by omega) (by omega)).trans h45
    have eg : ∀ g, g < m → gfn I g = true → I1 136 (cgn I g) = Int32.ofInt (g : Int) := fun g hg' hf => (h1.1 136 _ (by omega) (by omega)).trans (hg g hg' hf)
    rw [t1, t2, t3] at h1t
    rw [t4]
    have cl := cgn_le I m
    rw [oi_succ]
    refine ⟨fun q => ?_, fun q => ?_⟩
    · have qf : ¬ gfn I m = true := by
        have : gfn I m = false := bz_0.mp q
        rw [this]
        decide
      have c1 : cgn I (m + 1) = cgn I m := by
        show cgn I m + (if gfn I m = true then 1 else 0) = _
        rw [if_neg qf]
        rfl
      refine ih I1 s1 i1 (by rw [c1]; exact e43) (fun g hg' hf => ?_) (e44.trans (show tmn I m = tmn I (m + 1) from (if_neg qf).symm)) (e45.trans (show tmx I m = tmx I (m + 1) from (if_neg qf).symm))
      by_cases e : g = m
      · rw [e] at hf
        exact absurd hf qf
      · exact eg g (by omega) hf
    · have qf : gfn I m = true := by
        cases hq : gfn I m with
        | true => rfl
        | false => exact absurd (bz_0.mpr hq) q
      have c1 : cgn I (m + 1) = cgn I m + 1 := by
        show cgn I m + (if gfn I m = true then 1 else 0) = _
        rw [if_pos qf]
      have ga1 : g_all I (Int32.ofInt (m : Int)) (gA I (-9) (-9)) = true := by
        unfold gfn g_fit at qf
        rw [Bool.and_eq_true] at qf
        exact qf.1
      obtain ⟨e40, e41⟩ := h1t ga1
      have d1 : tmn I (m + 1) = if tmn I m ≤ g_E I (Int32.ofInt (m : Int)) (gA I (-9) (-9)) then tmn I m else g_E I (Int32.ofInt (m : Int)) (gA I (-9) (-9)) := if_pos qf
      have d2 : tmx I (m + 1) = if g_L I (Int32.ofInt (m : Int)) (gA I (-9) (-9)) ≤ tmx I m then tmx I m else g_L I (Int32.ofInt (m : Int)) (gA I (-9) (-9)) := if_pos qf
      have hcl : Int32.toNatClampNeg (I1 105 43) = cgn I m := by rw [e43]; exact oi_cln (by omega)
      have hp := i1.push e43 (by omega) hgm
      have fin : ∀ u v : Int32, u = tmn I (m + 1) → v = tmx I (m + 1) → am_wp X (d + 4) 195 18 [.ref 105, .int (Int32.ofInt ((m + 1 : Nat) : Int))] [] (am_N (am_up (am_up (am_up (am_up I1 136 (cgn I m) (Int32.ofInt (m : Int))) 105 43 (Int32.ofInt ((cgn I m + 1 : Nat) : Int))) 105 44 u) 105 45 v) J) Q := by
        intro u v eu ev
        refine ih _ (fun a j p r => ?_) ((hp.sm (sm.rf.up (by unfold Sc; omega))).sm (sm.rf.up (by unfold Sc; omega))) ?_ (fun g hg' hf => ?_) ?_ ?_
        · rw [am_upv, if_neg (by omega), am_upv, if_neg (by omega), am_upv, if_neg (by omega), am_upv, if_neg (by omega)]
          exact s1 a j p r
        · rw [am_upv, if_neg (by omega), am_upv, if_neg (by omega), am_upv, if_pos (by omega), c1]
        · rw [am_upv, if_neg (by omega), am_upv, if_neg (by omega), am_upv, if_neg (by omega), am_upv]
          by_cases e : g = m
          · rw [e, if_pos ⟨rfl, rfl⟩]
          · have := cgn_lt I (show g < m by omega) hf
            rw [if_neg (by omega)]
            exact eg g (by omega) hf
        · rw [am_upv, if_neg (by omega), am_upv, if_pos (by omega), eu]
        · rw [am_upv, if_pos (by omega), ev]
      refine ⟨by rw [e43]; exact oi_ix (by omega) (by omega) (by omega), ?_⟩
      rw [hcl, e43, oi_succ, e44, e45, e40, e41]
      refine ⟨fun w => ⟨fun z => fin _ _ ?_ ?_, fun z => fin _ _ ?_ ?_⟩, fun w => ⟨fun z => fin _ _ ?_ ?_, fun z => fin _ _ ?_ ?_⟩⟩
      · rw [d1, if_pos w]
      · rw [d2, if_pos z]
      · rw [d1, if_pos w]
      · rw [d2, if_neg z]
      · rw [d1, if_neg w]
      · rw [d2, if_pos z]
      · rw [d1, if_neg w]
      · rw [d2, if_neg z]
  · rw [am_upv, if_neg (by omega), am_upv, if_neg (by omega), am_upv, if_neg (by omega)]
  · rw [am_upv, if_neg (by omega), am_upv, if_neg (by omega), am_upv, if_pos (by omega)]
    rfl
  · rw [am_upv, if_neg (by omega), am_upv, if_pos (by omega)]
    rfl
  · rw [am_upv, if_pos (by omega)]
    rfl
/-! cells and guesses: how many -/
theorem A_all {I : Nat → Nat → Int32} (hI : Inv I) : ∀ r, r < bk I → aC I (-1) 1 r = gA I (-9) (-9) r := by
  intro r hr
  obtain ⟨l1, l2⟩ := hI.lb hr
  have g := hI.2.2.2.2.2.2.1 r l1
  have g7 := g.2.2.2.2.2.1
  have n1 := n9 g7
  have n0 : ¬ I 129 r = -1 := by
    obtain ⟨z, z1, z2, e⟩ := g7
    rw [e]
    intro q
    have := (oi_eq (a := z) (b := -1) (by omega) (by omega)).mp (q.trans (by decide))
    omega
  unfold aC gA
  rw [g.1.2.1, if_pos rfl]
  by_cases h : I 132 r = 0
  · rw [if_neg (by rw [hI.on hr]; exact fun q => q h), if_pos h, if_neg n0, if_neg (by decide), if_pos rfl, if_neg n1]
  · rw [if_pos (by rw [hI.on hr]; exact h), if_neg h]
theorem bit_fn {I : Nat → Nat → Int32} (hI : Inv I) (hw : Wf I) {c i : Nat} (hc : c < 576) (hi : i < 24) : tb (fbit I c) i = gfn I (24 * c + i) := (cell_fit hI hw (A_all hI) hc hi).2.2.2
theorem cgn_cell {I : Nat → Nat → Int32} (hI : Inv I) (hw : Wf I) {c : Nat} (hc : c < 576) (h0 : cgn I (24 * c) = fcn I c) : ∀ i, i ≤ 24 → cgn I (24 * c + i) = fcn I c + pcn (fbit I c) i := by
  intro i
  induction i with
  | zero => intro _; exact h0
  | succ i ih =>
    intro hi
    show cgn I (24 * c + i) + (if gfn I (24 * c + i) = true then 1 else 0) = fcn I c + (pcn (fbit I c) i + (if tb (fbit I c) i = true then 1 else 0))
    rw [ih (by omega), bit_fn hI hw hc (by omega), Nat.add_assoc]
theorem cgn_fcn {I : Nat → Nat → Int32} (hI : Inv I) (hw : Wf I) : ∀ c, c ≤ 576 → cgn I (24 * c) = fcn I c := by
  intro c
  induction c with
  | zero => intro _; rfl
  | succ c ih =>
    intro hc
    exact cgn_cell hI hw (by omega) (ih (by omega)) 24 (Nat.le_refl _)
