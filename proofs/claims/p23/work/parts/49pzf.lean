theorem c_206 {X : am_X} {d : Nat} {I : Nat → Nat → Int32} {J : Nat → Nat → Int64} {Q : Option Value → am_M → Prop} (k : am_wp X (d + 6) 206 8 [.ref 105, .int 0] [] (am_N (am_up I 105 50 41) J) Q) : am_wp X (d + 6) 206 0 [.ref 105, am_uv] [] (am_N I J) Q := s206_0 (s206_1 (s206_3 k0_105 (s206_6 (s206_7 rfl (k)))))
theorem c_206_8 {X : am_X} {d : Nat} {I : Nat → Nat → Int32} {J : Nat → Nat → Int64} {Q : Option Value → am_M → Prop} {m : Int32} (k : ((13824 ≤ m → ((Inv I ∧ gR (I 105 48) 0 13823) ∧ ∀ (I3264 : Nat → Nat → Int32), lk I I3264 (I 105 48) → Q none (am_N I3264 J))) ∧ (¬ 13824 ≤ m → (((I 105 50) ≤ 0 → ((Inv I ∧ gR (I 105 48) 0 13823) ∧ ∀ (I3266 : Nat → Nat → Int32), lk I I3266 (I 105 48) → Q none (am_N I3266 J))) ∧ (¬ (I 105 50) ≤ 0 → ((Inv I ∧ gR m 0 13823) ∧ ∀ (I3267 : Nat → Nat → Int32), lk I I3267 m → (Inv I3267 ∧ (((Int32.ofInt (wa I3267 : Int)) < (I3267 105 50) → (Inv I3267 ∧ ∀ (I3269 : Nat → Nat → Int32), t204 I3267 I3269 → (((I3269 105 50) ≤ (I3269 105 46) → am_wp X (d + 6) 206 8 [.ref 105, .int (m + 1)] [] (am_N I3269 J) Q) ∧ (¬ (I3269 105 50) ≤ (I3269 105 46) → am_wp X (d + 6) 206 8 [.ref 105, .int (m + 1)] [] (am_N (am_up (am_up (am_up I3269 105 50 (I3269 105 46)) 105 49 (I3269 105 47)) 105 48 m) J) Q)))) ∧ (¬ (Int32.ofInt (wa I3267 : Int)) < (I3267 105 50) → am_wp X (d + 6) 206 8 [.ref 105, .int (m + 1)] [] (am_N I3267 J) Q))))))))) : am_wp X (d + 6) 206 8 [.ref 105, .int m] [] (am_N I J) Q := s206_8 (s206_9 (s206_12 (fun h3263 => have k := k.1 h3263; s206_83 (s206_84 (s206_85 k0_105 (s206_88 k0_105 (Nat.le_of_ble_eq_true rfl) (w_189 k.1.1 k.1.2 (fun I3264 h1 => have k := k.2 I3264 h1; am_aft0 (s206_91 (k)))))))) (fun h3263 => have k := k.2 h3263; s206_15 (s206_16 k0_105 (s206_19 (fun h3265 => have k := k.1 h3265; s206_83 (s206_84 (s206_85 k0_105 (s206_88 k0_105 (Nat.le_of_ble_eq_true rfl) (w_189 k.1.1 k.1.2 (fun I3266 h1 => have k := k.2 I3266 h1; am_aft0 (s206_91 (k)))))))) (fun h3265 => have k := k.2 h3265; s206_22 (s206_23 (s206_24 k0_105 (Nat.le_of_ble_eq_true rfl) (w_189 k.1.1 k.1.2 (fun I3267 h1 => have k := k.2 I3267 h1; am_aft0 (s206_27 (s206_28 k0_105 (Nat.le_of_ble_eq_true rfl) (w_205 k.1 (have k := k.2; am_aft (s206_31 (s206_32 k0_105 (s206_35 (fun h3268 => have k := k.1 h3268; s206_41 (s206_42 k0_105 (Nat.le_of_ble_eq_true rfl) (w_204 k.1 (fun I3269 h1 => have k := k.2 I3269 h1; am_aft0 (s206_45 (s206_46 k0_105 (s206_49 (s206_50 k0_105 (s206_53 (fun h3270 => have k := k.1 h3270; s206_77 rfl (s206_80 (k))) (fun h3270 => have k := k.2 h3270; s206_56 (s206_57 (s206_58 k0_105 (s206_61 k0_105 (s206_64 (s206_65 (s206_66 k0_105 (s206_69 k0_105 (s206_72 (s206_73 (s206_74 k0_105 (s206_77 rfl (s206_80 (k))))))))))))))))))))))) (fun h3268 => have k := k.2 h3268; s206_38 (s206_77 rfl (s206_80 (k)))))))))))))))))))))
/-! THE NEAREST, on the reference's side -/
theorem Lg.of {I I' I1 : Nat → Nat → Int32} {g : Int32} (hI' : Inv I') (hw' : Wf I') (hg : gR g 0 13823) (hs : gy I I') (h : lk I' I1 g) : Lg I I1 g ∧ gy I I1 ∧ Inv I1 := by
  have l := lk.gl h (I' := I1) (fun _ _ _ => rfl)
  have y := hs.tr l.1.y
  refine ⟨⟨y.book, fun r => ⟨y 132 r (by omega) (by omega), y 128 r (by omega) (by omega)⟩, fun r hr => ?_⟩, y, l.inv hI' hg⟩
  obtain ⟨e1, e2, e3⟩ := l.rs (hI'.rhk hw' (show r < bk I' by rw [hs.book]; exact hr))
  obtain ⟨f1, f2, f3⟩ := hs.so g r
  exact ⟨e1.trans f1, e2.trans f2, e3.trans f3⟩
def Gm (I I' : Nat → Nat → Int32) (m : Nat) : Prop := I' 105 50 = (fst2 I m).1 ∧ (m = 0 ∨ (I' 105 48 = Int32.ofInt ((fst2 I m).2.1 : Int) ∧ I' 105 49 = (fst2 I m).2.2))
theorem fst2_lt (I : Nat → Nat → Int32) : ∀ m, m = 0 ∨ (fst2 I m).2.1 < m ∨ (fst2 I m).2.1 = 0 := by
  intro m
  induction m with
  | zero => exact Or.inl rfl
  | succ m ih =>
    have st : fst2 I (m + 1) = if Int32.ofInt (fN I m : Int) < (fst2 I m).1 ∧ Int32.ofInt (fH I m : Int) < (fst2 I m).1 then (Int32.ofInt (fH I m : Int), m, fTi I m) else fst2 I m := rfl
    by_cases q : Int32.ofInt (fN I m : Int) < (fst2 I m).1 ∧ Int32.ofInt (fH I m : Int) < (fst2 I m).1
    · rw [if_pos q] at st
      rw [st]
      exact Or.inr (Or.inl (by show m < m + 1; omega))
    · rw [if_neg q] at st
      rw [st]
      rcases ih with e | e | e
      · rw [e]
        exact Or.inr (Or.inr rfl)
      · exact Or.inr (Or.inl (by omega))
      · exact Or.inr (Or.inr e)
theorem Gm.en {I I' : Nat → Nat → Int32} (hI : Inv I) {g m : Nat} (h : Gm I I' g) (h0 : I' 105 50 ≤ 0) (hm : g ≤ m) : Gm I I' m := by
  have e := fst2_end hI (by rw [← h.1]; exact h0) m hm
  unfold Gm
  rw [e]
  refine ⟨h.1, Or.inr ?_⟩
  rcases h.2 with q | q
  · rw [h.1, q] at h0
    exact absurd h0 (by show ¬ (41 : Int32) ≤ 0; decide)
  · exact q
/-- the reference has found the nearest and looks at it -/
def f206 (I I' : Nat → Nat → Int32) : Prop := (gy I I' ∧ Inv I') ∧ (I' 105 50 = (fst2 I 13824).1 ∧ I' 105 49 = (fst2 I 13824).2.2) ∧ Lg I I' (Int32.ofInt ((fst2 I 13824).2.1 : Int)) ∧ ∃ I3, lk I3 I' (Int32.ofInt ((fst2 I 13824).2.1 : Int))
theorem w_206 {X : am_X} {d : Nat} {I : Nat → Nat → Int32} {J : Nat → Nat → Int64} {Q : Option Value → am_M → Prop} (hI : Inv I) (hw : Wf I) (k : ∀ I', f206 I I' → Q none (am_N I' J)) : am_wp X (d + 6) 206 0 [.ref 105, am_uv] [] (am_N I J) Q := by
  refine c_206 ?_
  have fin : ∀ I', gy I I' → Inv I' → Gm I I' 13824 → ∀ I1, lk I' I1 (I' 105 48) → Q none (am_N I1 J) := by
    intro I' hs hi hg I1 h1
    rcases hg.2 with q | ⟨q1, q2⟩
    · exact absurd q (by omega)
    · have g48 := hi.g48
      rw [q1] at h1 g48
      obtain ⟨l1, l2, l3⟩ := Lg.of hi (hs.wf hw) g48 hs h1
      have e : ∀ k, 45 ≤ k → I1 105 k = I' 105 k := fun k hk => (lk.gl h1 (I' := I1) (fun _ _ _ => rfl)).1 105 k (by omega) (by omega)
      exact k I1 ⟨⟨l2, l3⟩, ⟨(e 50 (by omega)).trans hg.1, (e 49 (by omega)).trans q2⟩, l1, I', h1⟩
  refine am_down (N := 13824) (P := fun m => ∀ I', gy I I' → Inv I' → Gm I I' m → am_wp X (d + 6) 206 8 [.ref 105, .int (Int32.ofInt (m : Int))] [] (am_N I' J) Q) ?_ ?_ 0 (by omega) _ (fun a j p q => by rw [am_upv, if_neg (by omega)]) (hI.sm (sm.rf.up (by unfold Sc; omega))) ⟨by rw [am_upv, if_pos (by omega)]; rfl, Or.inl rfl⟩
  · intro I' hs hi hg
    exact c_206_8 ⟨fun _ => ⟨⟨hi, hi.g48⟩, fin I' hs hi hg⟩, fun q => absurd (by decide) q⟩
  · intro m hm ih I' hs hi hg
    have hgm : gR (Int32.ofInt (m : Int)) 0 13823 := ⟨m, by omega, by omega, rfl⟩
    refine c_206_8 ⟨fun q => absurd q (by rw [show (13824 : Int32) = Int32.ofInt 13824 from rfl, oi_le (by omega) (by omega)]; omega), fun _ => ⟨fun q => ⟨⟨hi, hi.g48⟩, fin I' hs hi (hg.en hI q (by omega))⟩, fun _ => ⟨⟨hi, hgm⟩, fun I1 h1 => ?_⟩⟩⟩
    obtain ⟨l1, l2, l3⟩ := Lg.of hi (hs.wf hw) hgm hs h1
    have e1 : ∀ k, 45 ≤ k → I1 105 k = I' 105 k := fun k hk => (lk.gl h1 (I' := I1) (fun _ _ _ => rfl)).1 105 k (by omega) (by omega)
    obtain ⟨a1, a2, a3⟩ := guess_eq hI hw (c := m / 24) (i := m % 24) (by omega) (by omega) (show Lg I I1 (gn (m / 24) (m % 24)) by unfold gn; rw [show 24 * (m / 24) + m % 24 = m by omega]; exact l1)
    have b1 : wa I1 = fN I m := a1.symm
    have b2 : (rfo I1 (bk I1)).1 = fH I m := a2.symm
    have b3 : (rfo I1 (bk I1)).2 = fTi I m := a3.symm
    have st : fst2 I (m + 1) = if Int32.ofInt (fN I m : Int) < (fst2 I m).1 ∧ Int32.ofInt (fH I m : Int) < (fst2 I m).1 then (Int32.ofInt (fH I m : Int), m, fTi I m) else fst2 I m := rfl
    have no : ¬ (Int32.ofInt (fN I m : Int) < (fst2 I m).1 ∧ Int32.ofInt (fH I m : Int) < (fst2 I m).1) → ∀ I2, gy I I2 → Inv I2 → (∀ k, 48 ≤ k → I2 105 k = I' 105 k) → am_wp X (d + 6) 206 8 [.ref 105, .int (Int32.ofInt ((m + 1 : Nat) : Int))] [] (am_N I2 J) Q := by
      intro q I2 s2 i2 e2
      rw [if_neg q] at st
      refine ih I2 s2 i2 ?_
      unfold Gm
      rw [st, e2 50 (by omega), e2 49 (by omega), e2 48 (by omega)]
      refine ⟨hg.1, Or.inr ?_⟩
      rcases hg.2 with z | z
      · rw [z] at q
        exact absurd (fst2_1 hI) q
      · exact z
    rw [oi_succ, b1, e1 50 (by omega), hg.1]
    refine ⟨l3, fun q => ⟨l3, fun I2 h2 => ?_⟩, fun q => no (fun p => q p.1) I1 l2 l3 (fun k hk => e1 k (by omega))⟩
    obtain ⟨w2, w46', w47'⟩ := h2
    rw [b2] at w46'
    rw [b3] at w47'
    have y2 : gy I I2 := fun a j p r => (w2 a j (by omega)).trans (l2 a j p r)
    have i2 : Inv I2 := l3.sm w2.sm
    have e2 : ∀ k, 48 ≤ k → I2 105 k = I' 105 k := fun k hk => (w2 105 k (by omega)).trans (e1 k (by omega))
    rw [w46', e2 50 (by omega), hg.1]
    refine ⟨fun p => no (fun z => Int32.not_lt.mpr p z.2) I2 y2 i2 e2, fun p => ?_⟩
    rw [if_pos ⟨q, Int32.not_le.mp p⟩] at st
    refine ih _ (fun a j z r => ?_) (((i2.sm (sm.rf.up (by unfold Sc; omega))).sm (sm.rf.up (by unfold Sc; omega))).up48 hgm) ?_
    · rw [am_upv, if_neg (by omega), am_upv, if_neg (by omega), am_upv, if_neg (by omega)]
      exact y2 a j z r
    · unfold Gm
      rw [st]
      refine ⟨?_, Or.inr ⟨?_, ?_⟩⟩
      · rw [am_upv, if_neg (by omega), am_upv, if_neg (by omega), am_upv, if_pos (by omega)]
      · rw [am_upv, if_pos (by omega)]
      · rw [am_upv, if_neg (by omega), am_upv, if_pos (by omega)]
        exact w47'
