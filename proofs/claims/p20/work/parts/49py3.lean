/-! WHAT IS HELD FOR KNOWN OF THE SPANS -/
def Cs (I : Nat → Nat → Int32) : Prop := ¬ I 83 5 = 0 → ∀ w, w < 6 → I 85 w = mlo I w 576 ∧ I 86 w = mhi I w 576
theorem Sm.sl {I I1 : Nat → Nat → Int32} (h : Sm I I1) (c w : Nat) : slo I1 c w = slo I c w ∧ shi I1 c w = shi I c w := by
  obtain ⟨-, e2, e3, -⟩ := h.f (h.eC (-1) 1) (Int32.ofInt (c : Int))
  unfold slo shi
  rw [h.bit c, e2, e3]
  exact ⟨rfl, rfl⟩
theorem Sm.ml {I I1 : Nat → Nat → Int32} (h : Sm I I1) (w : Nat) : ∀ m, mlo I1 w m = mlo I w m ∧ mhi I1 w m = mhi I w m := by
  intro m
  induction m with
  | zero => exact ⟨rfl, rfl⟩
  | succ m ih =>
    show (if fbit I1 m = 0 then mlo I1 w m else am_min (mlo I1 w m) (slo I1 m w)) = (if fbit I m = 0 then mlo I w m else am_min (mlo I w m) (slo I m w)) ∧ (if fbit I1 m = 0 then mhi I1 w m else am_max (mhi I1 w m) (shi I1 m w)) = (if fbit I m = 0 then mhi I w m else am_max (mhi I w m) (shi I m w))
    rw [h.bit m, ih.1, ih.2, (h.sl m w).1, (h.sl m w).2]
    exact ⟨rfl, rfl⟩
theorem Cs.of {I I1 : Nat → Nat → Int32} (h : Cs I) (hs : Sm I I1) (e : ∀ a k, 83 ≤ a → a ≤ 86 → I1 a k = I a k) : Cs I1 := by
  intro q w hw
  rw [e 83 5 (by omega) (by omega)] at q
  rw [e 85 w (by omega) (by omega), e 86 w (by omega) (by omega), (hs.ml w 576).1, (hs.ml w 576).2]
  exact h q w hw
theorem Fj.cs {I I1 : Nat → Nat → Int32} (h : Fj I I1) (hI : Inv I) (hc : Cs I) : Cs I1 := by
  rcases h.2 with q | q
  · exact hc.of (q.q hI) (fun a k h1 h2 => q.1 a k h1 (by omega))
  · exact fun p => absurd q.1 p
theorem Cs.lo {I I1 : Nat → Nat → Int32} (hI : Inv I1) (h : ∀ a, a < 105 → I1 a = I a) (hc : Cs I) : Cs I1 := hc.of (lo_sm hI h) (fun a k _ _ => by rw [h a (by omega)])
def fks (I I' : Nat → Nat → Int32) : Prop := fk I I' ∧ ∀ w, w < 6 → I' 85 w = mlo I w 576 ∧ I' 86 w = mhi I w 576
theorem fks.cs {I I' : Nat → Nat → Int32} (h : fks I I') (hI : Inv I) : Cs I' := by
  have sq := h.1.1.1.vw.q hI
  intro _ w hw
  rw [(sq.ml w 576).1, (sq.ml w 576).2]
  exact h.2 w hw
theorem w_36s {X : am_X} {d : Nat} {I : Nat → Nat → Int32} {J : Nat → Nat → Int64} {Q : Option Value → am_M → Prop} (hI : Inv I) (hw : Wf I) (hc : Cf I) (hs : Cs I) (k : ∀ I' : Nat → Nat → Int32, fks I I' → Q none (am_N I' J)) : am_wp X (d + 5) 36 0 [.ref 83, am_uv] [] (am_N I J) Q := by
  refine w_36 hI hw (fun q => k I ⟨⟨⟨wy.rf, hc⟩, hc q⟩, hs q⟩) (fun _ I' h => ?_)
  obtain ⟨h1, h2, h3, h4, h5⟩ := h
  have sq := h1.vw.q hI
  exact k I' ⟨⟨⟨h1, fun _ => ⟨fun c hc => by rw [h3 c hc, sq.bit], by rw [h4, sq.cn]⟩⟩, h3, h4⟩, h5⟩
theorem c_96 {X : am_X} {d : Nat} {I : Nat → Nat → Int32} {J : Nat → Nat → Int64} {Q : Option Value → am_M → Prop} {x0 : Int32} {x1 : Int32} (hI : Inv I) (k : (((v_isWithin x0 0 5) = 0 → Q (some (.int (-2))) (am_N I J)) ∧ (¬ (v_isWithin x0 0 5) = 0 → (((v_isWithin x1 0 1) = 0 → Q (some (.int (-2))) (am_N I J)) ∧ (¬ (v_isWithin x1 0 1) = 0 → ((Inv I ∧ Wf I ∧ Cf I ∧ Cs I) ∧ ∀ (I3193 : Nat → Nat → Int32), fks I I3193 → (((I3193 83 4) = 0 → Q (some (.int (-3))) (am_N I3193 J)) ∧ (¬ (I3193 83 4) = 0 → ((x1 = 0 → (am_ix x0 6 ∧ Q (some (.int (I3193 85 (Int32.toNatClampNeg x0)))) (am_N I3193 J))) ∧ (¬ x1 = 0 → (am_ix x0 6 ∧ Q (some (.int (I3193 86 (Int32.toNatClampNeg x0)))) (am_N I3193 J)))))))))))) : am_wp X (d + 6) 96 0 [.ref 0, .int x0, .int x1] [] (am_N I J) Q := s96_0 (s96_1 (s96_2 (s96_3 (Nat.le_of_ble_eq_true rfl) (w_isWithin (am_aft (s96_6 (fun h3191 => have k := k.1 h3191; s96_18 (s96_20 (k))) (fun h3191 => have k := k.2 h3191; s96_9 (s96_10 (s96_11 (s96_12 (Nat.le_of_ble_eq_true rfl) (w_isWithin (am_aft (s96_15 (fun h3192 => have k := k.1 h3192; s96_18 (s96_20 (k))) (fun h3192 => have k := k.2 h3192; s96_21 (s96_22 k0_0 p0_0_2 (s96_25 k0_83 (Nat.le_of_ble_eq_true rfl) (w_36s k.1.1 k.1.2.1 k.1.2.2.1 k.1.2.2.2 (fun I3193 h1 => have k := k.2 I3193 h1; am_aft0 (s96_28 (s96_29 k0_0 p0_0_2 (s96_32 k0_83 (s96_35 (fun h3194 => have k := k.1 h3194; s96_38 (s96_40 (k))) (fun h3194 => have k := k.2 h3194; s96_41 (s96_42 (fun h3195 => have k := k.1 h3195; s96_45 (s96_46 k0_0 p0_0_2 (s96_49 k0_83 p0_83_2 (s96_52 (have b3196 := k.1; have k := k.2; s96_53 k0_85 b3196 (s96_54 (s96_66 (k)))))))) (fun h3195 => have k := k.2 h3195; s96_57 (s96_58 k0_0 p0_0_2 (s96_61 k0_83 p0_83_3 (s96_64 (have b3197 := k.1; have k := k.2; s96_65 k0_86 b3197 (s96_66 (k)))))))))))))))))))))))))))))))
theorem c2_199 {X : am_X} {d : Nat} {I : Nat → Nat → Int32} {J : Nat → Nat → Int64} {Q : Option Value → am_M → Prop} {x0 : Int32} {x1 : Int32} (k : (((v_within x0 0 5) = 0 → Q (some (.int (-2))) (am_N I J)) ∧ (¬ (v_within x0 0 5) = 0 → (((v_within x1 0 1) = 0 → Q (some (.int (-2))) (am_N I J)) ∧ (¬ (v_within x1 0 1) = 0 → ((Inv I ∧ Wf I) ∧ ∀ (I3200 : Nat → Nat → Int32), fl I I3200 → (((I3200 105 43) = 0 → Q (some (.int (-3))) (am_N I3200 J)) ∧ (¬ (I3200 105 43) = 0 → ((x0 = 5 → ((x1 = 0 → Q (some (.int (I3200 105 44))) (am_N I3200 J)) ∧ (¬ x1 = 0 → Q (some (.int (I3200 105 45))) (am_N I3200 J)))) ∧ (¬ x0 = 5 → am_wp X (d + 5) 199 75 [.ref 105, .int x0, .int x1, .int (v_part (m_lay I3200 (I3200 136 0)) x0), .int 1, am_uv] [] (am_N (m_lay I3200 (I3200 136 0)) J) Q)))))))))) : am_wp X (d + 5) 199 0 [.ref 105, .int x0, .int x1, am_uv, am_uv, am_uv] [] (am_N I J) Q := s199_0 (s199_1 (s199_2 (s199_3 (Nat.le_of_ble_eq_true rfl) (w_within (am_aft (s199_6 (fun h3198 => have k := k.1 h3198; s199_18 (s199_20 (k))) (fun h3198 => have k := k.2 h3198; s199_9 (s199_10 (s199_11 (s199_12 (Nat.le_of_ble_eq_true rfl) (w_within (am_aft (s199_15 (fun h3199 => have k := k.1 h3199; s199_18 (s199_20 (k))) (fun h3199 => have k := k.2 h3199; s199_21 (s199_22 k0_105 (Nat.le_of_ble_eq_true rfl) (w_195 k.1.1 k.1.2 (fun I3200 h1 => have k := k.2 I3200 h1; am_aft0 (s199_25 (s199_26 k0_105 (s199_29 (fun h3201 => have k := k.1 h3201; s199_32 (s199_34 (k))) (fun h3201 => have k := k.2 h3201; s199_35 (s199_36 (s199_37 (fun h3202 => have k := k.1 h3202; s199_40 (s199_41 (fun h3203 => have k := k.1 h3203; s199_44 (s199_45 k0_105 (s199_48 (s199_55 (k))))) (fun h3203 => have k := k.2 h3203; s199_51 (s199_52 k0_105 (s199_55 (k)))))) (fun h3202 => have k := k.2 h3202; s199_56 (s199_57 (s199_58 k0_105 p0_105_42 (s199_61 (s199_62 k0_136 (oi_ix (a := 0) (by decide) (by decide) (by decide)) (s199_63 k0_105 (Nat.le_of_ble_eq_true rfl) (w_lay (am_aft0 (s199_66 (s199_67 (s199_68 k0_105 (Nat.le_of_ble_eq_true rfl) (w_part (am_aft (s199_71 rfl (s199_72 (s199_73 rfl (k))))))))))))))))))))))))))))))))))))))))
theorem c2_199_75 {X : am_X} {d : Nat} {I : Nat → Nat → Int32} {J : Nat → Nat → Int64} {Q : Option Value → am_M → Prop} {x0 x1 b m : Int32} {u5 : Value} (hu5 : u5.category = 1) (k : (((I 105 43) ≤ m → Q (some (.int b)) (am_N I J)) ∧ (¬ (I 105 43) ≤ m → (am_ix m 13824 ∧ ((x1 = 0 → ((b ≤ (v_part (m_lay I (I 136 (Int32.toNatClampNeg m))) x0) → am_wp X (d + 5) 199 75 [.ref 105, .int x0, .int x1, .int b, .int (m + 1), .int (v_part (m_lay I (I 136 (Int32.toNatClampNeg m))) x0)] [] (am_N (m_lay I (I 136 (Int32.toNatClampNeg m))) J) Q) ∧ (¬ b ≤ (v_part (m_lay I (I 136 (Int32.toNatClampNeg m))) x0) → am_wp X (d + 5) 199 75 [.ref 105, .int x0, .int x1, .int (v_part (m_lay I (I 136 (Int32.toNatClampNeg m))) x0), .int (m + 1), .int (v_part (m_lay I (I 136 (Int32.toNatClampNeg m))) x0)] [] (am_N (m_lay I (I 136 (Int32.toNatClampNeg m))) J) Q))) ∧ (¬ x1 = 0 → (((v_part (m_lay I (I 136 (Int32.toNatClampNeg m))) x0) ≤ b → am_wp X (d + 5) 199 75 [.ref 105, .int x0, .int x1, .int b, .int (m + 1), .int (v_part (m_lay I (I 136 (Int32.toNatClampNeg m))) x0)] [] (am_N (m_lay I (I 136 (Int32.toNatClampNeg m))) J) Q) ∧ (¬ (v_part (m_lay I (I 136 (Int32.toNatClampNeg m))) x0) ≤ b → am_wp X (d + 5) 199 75 [.ref 105, .int x0, .int x1, .int (v_part (m_lay I (I 136 (Int32.toNatClampNeg m))) x0), .int (m + 1), .int (v_part (m_lay I (I 136 (Int32.toNatClampNeg m))) x0)] [] (am_N (m_lay I (I 136 (Int32.toNatClampNeg m))) J) Q)))))))) : am_wp X (d + 5) 199 75 [.ref 105, .int x0, .int x1, .int b, .int m, u5] [] (am_N I J) Q := s199_75 (s199_77 (s199_78 k0_105 (s199_81 (fun h3204 => have k := k.1 h3204; s199_140 (s199_141 (k))) (fun h3204 => have k := k.2 h3204; s199_84 (s199_85 (s199_86 k0_105 p0_105_42 (s199_89 (have b3205 := k.1; have k := k.2; s199_91 k0_136 b3205 (s199_92 k0_105 (Nat.le_of_ble_eq_true rfl) (w_lay (am_aft0 (s199_95 (s199_96 (s199_97 k0_105 (Nat.le_of_ble_eq_true rfl) (w_part (am_aft (s199_100 rfl (s199_102 (s199_103 (fun h3206 => have k := k.1 h3206; s199_106 (s199_108 (s199_109 (fun h3207 => have k := k.1 h3207; s199_117 (s199_118 (s199_133 rfl (s199_134 rfl (s199_137 (k)))))) (fun h3207 => have k := k.2 h3207; s199_112 (s199_114 (s199_133 rfl (s199_134 rfl (s199_137 (k))))))))) (fun h3206 => have k := k.2 h3206; s199_121 (s199_123 (s199_124 (fun h3208 => have k := k.1 h3208; s199_132 (s199_133 rfl (s199_134 rfl (s199_137 (k))))) (fun h3208 => have k := k.2 h3208; s199_127 (s199_129 (s199_133 rfl (s199_134 rfl (s199_137 (k))))))))))))))))))))))))))))
/-! THE REFERENCE'S SPANS -/
theorem part_pg {I : Nat → Nat → Int32} {g : Nat} (hg : g < 13824) (w : Int32) : v_part (m_lay I (Int32.ofInt (g : Int))) w = pgf w g := by
  have eg : Int32.ofInt (g : Int) = gn (g / 24) (g % 24) := by
    unfold gn
    rw [show 24 * (g / 24) + g % 24 = g by omega]
  rw [eg]
  obtain ⟨x1, x2, x3, x4, x5⟩ := gn_at (c := g / 24) (i := g % 24) (by omega) (by omega)
  obtain ⟨y1, y2, y3⟩ := cn_at (c := g / 24) (by omega)
  obtain ⟨⟨z1, z2, z3, z4, z5⟩, -⟩ := lay_at I (gn (g / 24) (g % 24))
  have e4 : Int32.ofInt ((g % 24 : Nat) : Int) / 2 + 1 = Int32.ofInt ((g % 24 / 2 + 1 : Nat) : Int) := by
    rw [show (2 : Int32) = Int32.ofInt 2 from rfl, show (1 : Int32) = Int32.ofInt 1 from rfl, oi_div (by omega) (by omega) (by omega) (by omega), oi_add]
    congr 1
  have e5 : am_rem (Int32.ofInt ((g % 24 : Nat) : Int)) 2 = Int32.ofInt ((g % 24 % 2 : Nat) : Int) := by
    rw [show (2 : Int32) = Int32.ofInt 2 from rfl, oi_rem (by omega) (by omega) (by omega) (by omega)]
    congr 1
  unfold v_part pgf v_partOfGuess
  rw [z1, z2, z3, z4, z5, x1, x2, x3, x4, x5, y1, y2, y3, e4, e5]
theorem cg_split (I : Nat → Nat → Int32) {n : Nat} : ∀ M, n < cgn I M → ∃ g, g < M ∧ gfn I g = true ∧ cgn I g = n := by
  intro M
  induction M with
  | zero => intro h; exact absurd h (by show ¬ n < 0; omega)
  | succ M ih =>
    intro h
    by_cases hn : n < cgn I M
    · obtain ⟨g, g1, g2, g3⟩ := ih hn
      exact ⟨g, by omega, g2, g3⟩
    · have h : n < cgn I M + (if gfn I M = true then 1 else 0) := h
      by_cases ht : gfn I M = true
      · rw [if_pos ht] at h
        exact ⟨M, by omega, ht, by omega⟩
      · rw [if_neg ht] at h
        omega
theorem cg_inj (I : Nat → Nat → Int32) {a b : Nat} (ha : gfn I a = true) (hb : gfn I b = true) (h : cgn I a = cgn I b) : a = b := by
  rcases Nat.lt_trichotomy a b with q | q | q
  · have := cgn_lt I q ha
    omega
  · exact q
  · have := cgn_lt I q hb
    omega
theorem gL_top (F : Nat → Int32) (A : Nat → Bool) : ∀ m, gL F A m ≤ 1000000 := by
  intro m
  induction m with
  | zero => exact Int32.le_refl _
  | succ m ih =>
    show (if A m = true then (if gL F A m ≤ F m then gL F A m else F m) else gL F A m) ≤ 1000000
    split
    · split
      · exact ih
      · rename_i h
        exact Int32.le_trans (le_nle h) ih
    · exact ih
theorem gE_bot (F : Nat → Int32) (A : Nat → Bool) : ∀ m, 0 ≤ gE F A m := by
  intro m
  induction m with
  | zero => exact Int32.le_refl _
  | succ m ih =>
    show 0 ≤ (if A m = true then (if F m ≤ gE F A m then gE F A m else F m) else gE F A m)
    split
    · split
      · exact ih
      · rename_i h
        exact Int32.le_trans ih (le_nle h)
    · exact ih
theorem fit_EL {I : Nat → Nat → Int32} {g : Nat} (h : gfn I g = true) : gEn I g ≤ gLn I g := by
  unfold gfn g_fit at h
  rw [Bool.and_eq_true] at h
  have := of_decide_eq_false ((Bool.not_eq_true' _).mp h.2)
  exact Int32.not_lt.mp this
theorem mn_top {x t : Int32} (h : x ≤ t) : mn2 t x = x := by
  unfold mn2
  split
  · rename_i q
    exact Int32.le_antisymm q h
  · rfl
theorem mx_bot {x t : Int32} (h : t ≤ x) : mx2 t x = x := by
  unfold mx2
  split
  · rename_i q
    exact Int32.le_antisymm h q
  · rfl
theorem tmn_ok {I : Nat → Nat → Int32} (ne : ∃ g, gfq I g) : IsM Rle (gfq I) (gEn I) (tmn I 13824) := by
  rcases IsM.fold (N := 13824) (P := fun g => gfn I g = true) (f := gEn I) (F := tmn I) MO.mn rfl (fun m _ q => if_neg q) (fun m _ q => if_pos q) (fun m _ q => mn_top (Int32.le_trans (fit_EL q) (gL_top _ _ _))) 13824 (Nat.le_refl _) with q | ⟨q, -⟩
  · exact q
  · obtain ⟨g, g1, g2⟩ := ne
    exact absurd g2 (q g g1)
theorem tmx_ok {I : Nat → Nat → Int32} (ne : ∃ g, gfq I g) : IsM Rge (gfq I) (gLn I) (tmx I 13824) := by
  rcases IsM.fold (N := 13824) (P := fun g => gfn I g = true) (f := gLn I) (F := tmx I) MO.mx rfl (fun m _ q => if_neg q) (fun m _ q => if_pos q) (fun m _ q => mx_bot (Int32.le_trans (gE_bot _ _ _) (fit_EL q))) 13824 (Nat.le_refl _) with q | ⟨q, -⟩
  · exact q
  · obtain ⟨g, g1, g2⟩ := ne
    exact absurd g2 (q g g1)
/-- the guess is laid anew -/
def lz (I I' : Nat → Nat → Int32) : Prop := ∀ a k, ¬ (a = 105 ∧ 32 ≤ k ∧ k ≤ 36) → I' a k = I a k
theorem lz.rf {I : Nat → Nat → Int32} : lz I I := fun _ _ _ => rfl
theorem lz.lay {I I' : Nat → Nat → Int32} (h : lz I I') (g : Int32) : lz I (m_lay I' g) := fun a k q => ((lay_at I' g).2 a k q).trans (h a k q)
def nb (x1 b p : Int32) : Int32 := if x1 = 0 then mn2 b p else mx2 b p
theorem w_199l {X : am_X} {d : Nat} {I0 I : Nat → Nat → Int32} {J : Nat → Nat → Int64} {Q : Option Value → am_M → Prop} {x0 x1 : Int32} {R : Int32 → Int32 → Prop} (hM : MO R (nb x1)) (hf : fl I0 I) (ne : ∃ g, gfq I0 g) (k : ∀ (r : Int32) (I' : Nat → Nat → Int32), Inv I' → IsM R (gfq I0) (pgf x0) r → Q (some (.int r)) (am_N I' J)) : am_wp X (d + 5) 199 75 [.ref 105, .int x0, .int x1, .int (v_part (m_lay I (I 136 0)) x0), .int 1, am_uv] [] (am_N (m_lay I (I 136 0)) J) Q := by
  obtain ⟨⟨hg, hi⟩, h43, h136, -, -⟩ := hf
  have lM := cgn_le I0 13824
  have pos : 0 < cgn I0 13824 := by
    obtain ⟨g, g1, g2⟩ := ne
    have a := cgn_lt I0 (show g < g + 1 by omega) g2
    have b := cgn_mono I0 (show g + 1 ≤ 13824 by omega)
    omega
  have at' : ∀ m, m < cgn I0 13824 → ∃ g, gfq I0 g ∧ cgn I0 g = m ∧ I 136 m = Int32.ofInt (g : Int) := by
    intro m hm
    obtain ⟨g, g1, g2, g3⟩ := cg_split I0 13824 hm
    exact ⟨g, ⟨g1, g2⟩, g3, by rw [← g3]; exact h136 g g1 g2⟩
  obtain ⟨g0, q0, c0, e0⟩ := at' 0 pos
  have one : IsM R (fun g => gfq I0 g ∧ cgn I0 g < 1) (pgf x0) (pgf x0 g0) := IsM.one hM (fun q => ⟨fun ⟨a, b⟩ => cg_inj I0 a.2 q0.2 (by omega), fun e => by rw [e]; exact ⟨q0, by omega⟩⟩)
  have gr : ∀ g, gfq I0 g → gR (Int32.ofInt (g : Int)) 0 13823 := fun g h => ⟨g, by omega, by have := h.1; omega, rfl⟩
  rw [e0, part_pg q0.1]
  refine am_down (N := cgn I0 13824) (P := fun m => ∀ (b : Int32) (u5 : Value) (I' : Nat → Nat → Int32), u5.category = 1 → lz I I' → Inv I' → IsM R (fun g => gfq I0 g ∧ cgn I0 g < m) (pgf x0) b → am_wp X (d + 5) 199 75 [.ref 105, .int x0, .int x1, .int b, .int (Int32.ofInt (m : Int)), u5] [] (am_N I' J) Q) ?_ ?_ 1 (by omega) (pgf x0 g0) am_uv _ rfl (lz.rf.lay _) (hi.lay (gr g0 q0)) one
  · intro b u5 I' h5 hs hi' hb
    refine c2_199_75 h5 ⟨fun _ => k b I' hi' ?_, fun q => absurd (by rw [hs 105 43 (by omega), h43]; exact Int32.le_refl _) q⟩
    exact hb.iff (fun g => ⟨fun q => ⟨q, cgn_lt I0 q.1 q.2⟩, fun q => q.1⟩) (fun _ _ => rfl)
  · intro m hm ih b u5 I' h5 hs hi' hb
    obtain ⟨g, q, c, e⟩ := at' m hm
    have e136 : I' 136 m = Int32.ofInt (g : Int) := (hs 136 m (by omega)).trans e
    have ix : am_ix (Int32.ofInt (m : Int)) 13824 := oi_ix (by omega) (by omega) (by omega)
    have pp : ∀ z, (gfq I0 z ∧ cgn I0 z < m + 1) ↔ (gfq I0 z ∧ cgn I0 z < m) ∨ z = g := by
      intro z
      refine ⟨fun ⟨p1, p2⟩ => ?_, fun p => ?_⟩
      · by_cases h : cgn I0 z < m
        · exact Or.inl ⟨p1, h⟩
        · exact Or.inr (cg_inj I0 p1.2 q.2 (by omega))
      · rcases p with p | p
        · exact ⟨p.1, by omega⟩
        · rw [p]
          exact ⟨q, by omega⟩
    refine c2_199_75 h5 ⟨fun z => absurd z (by rw [hs 105 43 (by omega), h43, oi_le (by omega) (by omega)]; omega), fun _ => ⟨ix, ?_⟩⟩
    rw [oi_cln (by omega), e136, part_pg q.1, oi_succ]
    have nx := fun v (hv : v = nb x1 b (pgf x0 g)) => ih v (.int (pgf x0 g)) _ rfl (hs.lay (Int32.ofInt (g : Int))) (hi'.lay (gr g q)) (by rw [hv]; exact hb.add hM pp)
    refine ⟨fun z => ⟨fun y => nx _ ?_, fun y => nx _ ?_⟩, fun z => ⟨fun y => nx _ ?_, fun y => nx _ ?_⟩⟩
    · unfold nb mn2
      rw [if_pos z, if_pos y]
    · unfold nb mn2
      rw [if_pos z, if_neg y]
    · unfold nb mx2
      rw [if_neg z, if_pos y]
    · unfold nb mx2
      rw [if_neg z, if_neg y]
theorem wi_of {x : Int32} {n : Nat} (hn : n < 1000) (h : ¬ v_isWithin x 0 (Int32.ofInt (n : Int)) = 0) : ∃ w : Nat, w ≤ n ∧ x = Int32.ofInt (w : Int) := by
  obtain ⟨z, rfl, z1, z2⟩ := oi_of x
  unfold v_isWithin at h
  rw [show (0 : Int32) = Int32.ofInt 0 from rfl] at h
  by_cases a : Int32.ofInt z < Int32.ofInt 0
  · rw [if_pos a] at h
    exact absurd rfl h
  · rw [if_neg a] at h
    by_cases b : Int32.ofInt (n : Int) < Int32.ofInt z
    · rw [if_pos b] at h
      exact absurd rfl h
    · rw [oi_lt (by omega) (by omega)] at a b
      exact ⟨z.toNat, by omega, congrArg Int32.ofInt (by omega)⟩
theorem e_96 {X : am_X} {d : Nat} {I : Nat → Nat → Int32} {J : Nat → Nat → Int64} {Q : Option Value → am_M → Prop} {x0 : Int32} {x1 : Int32} (hI : Inv I) (hw : Wf I) (hc : Cf I) (hs : Cs I) (k : ∀ (r : Int32) (I1 : Nat → Nat → Int32) (J1 : Nat → Nat → Int64), Md 199 5 [.ref 105, .int x0, .int x1, am_uv, am_uv, am_uv] (fun v => v = .int r) I1 → Q (some (.int r)) (am_N I1 J1)) : am_wp X (d + 6) 96 0 [.ref 0, .int x0, .int x1] [] (am_N I J) Q := by
  refine c_96 hI ⟨fun q => k _ _ _ (fun X d J Q k' => c2_199 ⟨fun _ => k' _ _ _ rfl hI, fun q' => absurd q q'⟩), fun q => ⟨fun z => k _ _ _ (fun X d J Q k' => c2_199 ⟨fun q' => absurd q' q, fun _ => ⟨fun _ => k' _ _ _ rfl hI, fun z' => absurd z z'⟩⟩), fun z => ⟨⟨hI, hw, hc, hs⟩, fun I1 h1' => ?_⟩⟩⟩
  have h1 := h1'.1
  have hI1 : Inv I1 := hI.sm h1.1.1.sm
  have hw1 := h1.1.1.vw.wf hw
  have sq := h1.1.1.vw.q hI
  have e43 : ∀ I2, fl I1 I2 → I2 105 43 = I1 83 4 := fun I2 h2 => many_fit hI hw h1 h2
  refine ⟨fun y => k _ _ _ (fun X d J Q k' => c2_199 ⟨fun q' => absurd q' q, fun _ => ⟨fun z' => absurd z' z, fun _ => ⟨⟨hI1, hw1⟩, fun I2 h2 => ⟨fun _ => k' _ _ _ rfl h2.1.2, fun y' => absurd (by rw [e43 I2 h2]; exact y) y'⟩⟩⟩⟩), fun y => ?_⟩
  have ne : ∀ I2, fl I1 I2 → ∃ g, gfq I1 g := by
    intro I2 h2
    have lf := cgn_le I1 13824
    have e := h2.2.1
    rw [e43 I2 h2] at e
    have : 0 < cgn I1 13824 := by
      rcases Nat.eq_zero_or_pos (cgn I1 13824) with q | q
      · rw [q] at e
        exact absurd e y
      · exact q
    obtain ⟨g, g1, g2, -⟩ := cg_split I1 13824 this
    exact ⟨g, g1, g2⟩
  obtain ⟨w, w5, rfl⟩ := wi_of (n := 5) (by omega) q
  have ix : am_ix (Int32.ofInt (w : Int)) 6 := oi_ix (by omega) (by omega) (by omega)
  have cl : Int32.toNatClampNeg (Int32.ofInt (w : Int)) = w := oi_cln (by omega)
  have lo : I1 85 w = mlo I1 w 576 := ((h1'.2 w (by omega)).1).trans ((sq.ml w 576).1.symm)
  have hi : I1 86 w = mhi I1 w 576 := ((h1'.2 w (by omega)).2).trans ((sq.ml w 576).2.symm)
  have is5 : Int32.ofInt (w : Int) = 5 → w = 5 := by
    intro e
    have := (oi_eq (b := 5) (by omega) (by omega)).mp e
    omega
  have n5 : ¬ Int32.ofInt (w : Int) = 5 → w < 5 := by
    intro e
    rcases Nat.lt_or_ge w 5 with a | a
    · exact a
    · exact absurd (congrArg (fun n : Nat => Int32.ofInt (n : Int)) (show w = 5 by omega)) e
  rw [cl]
  refine ⟨fun a => ⟨ix, ?_⟩, fun a => ⟨ix, ?_⟩⟩
  · refine k _ _ _ (fun X d J Q k' => c2_199 ⟨fun q' => absurd q' q, fun _ => ⟨fun z' => absurd z' z, fun _ => ⟨⟨hI1, hw1⟩, fun I2 h2 => ⟨fun y' => absurd (by rw [← e43 I2 h2]; exact y') y, fun _ => ⟨fun b => ⟨fun _ => k' _ _ _ ?_ h2.1.2, fun a' => absurd a a'⟩, fun b => ?_⟩⟩⟩⟩⟩)
    · have s := sp_lo hI1 hw1 (ne I2 h2) (show w < 6 by omega)
      rw [is5 b] at s ⊢
      rw [is5 b] at lo
      rw [lo, h2.2.2.2.1]
      exact congrArg Value.int ((tmn_ok (ne I2 h2)).un MO.mn s)
    · have m : nb x1 = mn2 := by
        funext u v
        exact if_pos a
      refine w_199l (R := Rle) (by rw [m]; exact MO.mn) h2 (ne I2 h2) (fun r I' hi' hr => k' _ _ _ ?_ hi')
      have s := (sp_lo hI1 hw1 (ne I2 h2) (show w < 6 by omega)).iff (fun _ => Iff.rfl) (f' := pgf (Int32.ofInt (w : Int))) (fun g _ => (if_pos (n5 b)).symm)
      rw [lo]
      exact congrArg Value.int (hr.un MO.mn s)
  · refine k _ _ _ (fun X d J Q k' => c2_199 ⟨fun q' => absurd q' q, fun _ => ⟨fun z' => absurd z' z, fun _ => ⟨⟨hI1, hw1⟩, fun I2 h2 => ⟨fun y' => absurd (by rw [← e43 I2 h2]; exact y') y, fun _ => ⟨fun b => ⟨fun a' => absurd a' a, fun _ => k' _ _ _ ?_ h2.1.2⟩, fun b => ?_⟩⟩⟩⟩⟩)
    · have s := sp_hi hI1 hw1 (ne I2 h2) (show w < 6 by omega)
      rw [is5 b] at s ⊢
      rw [is5 b] at hi
      rw [hi, h2.2.2.2.2]
      exact congrArg Value.int ((tmx_ok (ne I2 h2)).un MO.mx s)
    · have m : nb x1 = mx2 := by
        funext u v
        exact if_neg a
      refine w_199l (R := Rge) (by rw [m]; exact MO.mx) h2 (ne I2 h2) (fun r I' hi' hr => k' _ _ _ ?_ hi')
      have s := (sp_hi hI1 hw1 (ne I2 h2) (show w < 6 by omega)).iff (fun _ => Iff.rfl) (f' := pgf (Int32.ofInt (w : Int))) (fun g _ => (if_pos (n5 b)).symm)
      rw [hi]
      exact congrArg Value.int (hr.un MO.mx s)
