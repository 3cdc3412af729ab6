theorem s188_0 {X : am_X} {d : Nat} {v1 : Value} {x : Nat} {σ : am_M} {st : List Value} {Q : Option Value → am_M → Prop} (k : am_wp X d 188 1 [.ref x, v1] (.ref x :: st) σ Q) : am_wp X d 188 0 [.ref x, v1] st σ Q := g_aln (i := 0) (by decide +kernel) rfl k
theorem s188_0n {X : am_X} {d : Nat} {v1 : Value} {σ : am_M} {st : List Value} {Q : Option Value → am_M → Prop} (k : am_wp X d 188 1 [.null, v1] (.null :: st) σ Q) : am_wp X d 188 0 [.null, v1] st σ Q := g_aln0 (i := 0) (by decide +kernel) rfl k
theorem s188_1 {X : am_X} {d : Nat} {v0 : Value} {x : Int32} {σ : am_M} {st : List Value} {Q : Option Value → am_M → Prop} (k : am_wp X d 188 2 [v0, .int x] (.int x :: st) σ Q) : am_wp X d 188 1 [v0, .int x] st σ Q := g_iln (i := 1) (by decide +kernel) rfl k
theorem s188_2 {X : am_X} {d : Nat} {ls : List Value} {σ : am_M} {st : List Value} {Q : Option Value → am_M → Prop} (k : am_wp X d 188 3 ls (.int 2 :: st) σ Q) : am_wp X d 188 2 ls st σ Q := Eq.mpr (r_ic (z := 2) (v := 2) (by decide +kernel) (by decide +kernel)) k
theorem s188_3 {X : am_X} {d : Nat} {ls : List Value} {x y : Int32} {σ : am_M} {st : List Value} {Q : Option Value → am_M → Prop} (h : ¬ y = 0) (k : am_wp X d 188 4 ls (.int (am_rem x y) :: st) σ Q) : am_wp X d 188 3 ls (.int y :: .int x :: st) σ Q := g_irem (by decide +kernel) h k
theorem s188_4 {X : am_X} {d : Nat} {ls : List Value} {a : Nat} {x : Int32} {I : Nat → Nat → Int32} {J : Nat → Nat → Int64} {st : List Value} {Q : Option Value → am_M → Prop} (h : am_K0[a]? = some (10, 58)) (k : am_wp X d 188 7 ls st (am_N (am_up I a 36 x) J) Q) : am_wp X d 188 4 ls (.int x :: .ref a :: st) (am_N I J) Q := Eq.mpr (r_put (k := 225) (ci := 10) (f := 36) (p := 1089) (by decide +kernel) (by decide +kernel) h (Or.inl (by decide +kernel)) rfl) k
theorem s188_7 {X : am_X} {d : Nat} {v1 : Value} {x : Nat} {σ : am_M} {st : List Value} {Q : Option Value → am_M → Prop} (k : am_wp X d 188 8 [.ref x, v1] (.ref x :: st) σ Q) : am_wp X d 188 7 [.ref x, v1] st σ Q := g_aln (i := 0) (by decide +kernel) rfl k
theorem s188_7n {X : am_X} {d : Nat} {v1 : Value} {σ : am_M} {st : List Value} {Q : Option Value → am_M → Prop} (k : am_wp X d 188 8 [.null, v1] (.null :: st) σ Q) : am_wp X d 188 7 [.null, v1] st σ Q := g_aln0 (i := 0) (by decide +kernel) rfl k
theorem s188_8 {X : am_X} {d : Nat} {v0 : Value} {x : Int32} {σ : am_M} {st : List Value} {Q : Option Value → am_M → Prop} (k : am_wp X d 188 9 [v0, .int x] (.int x :: st) σ Q) : am_wp X d 188 8 [v0, .int x] st σ Q := g_iln (i := 1) (by decide +kernel) rfl k
theorem s188_9 {X : am_X} {d : Nat} {ls : List Value} {σ : am_M} {st : List Value} {Q : Option Value → am_M → Prop} (k : am_wp X d 188 10 ls (.int 2 :: st) σ Q) : am_wp X d 188 9 ls st σ Q := Eq.mpr (r_ic (z := 2) (v := 2) (by decide +kernel) (by decide +kernel)) k
theorem s188_10 {X : am_X} {d : Nat} {ls : List Value} {x y : Int32} {σ : am_M} {st : List Value} {Q : Option Value → am_M → Prop} (h : ¬ y = 0) (k : am_wp X d 188 11 ls (.int (x / y) :: st) σ Q) : am_wp X d 188 10 ls (.int y :: .int x :: st) σ Q := g_idiv (by decide +kernel) h k
theorem s188_11 {X : am_X} {d : Nat} {ls : List Value} {σ : am_M} {st : List Value} {Q : Option Value → am_M → Prop} (k : am_wp X d 188 13 ls (.int 12 :: st) σ Q) : am_wp X d 188 11 ls st σ Q := Eq.mpr (r_bp (z := 12) (v := 12) (by decide +kernel) (by decide +kernel)) k
theorem s188_13 {X : am_X} {d : Nat} {ls : List Value} {x y : Int32} {σ : am_M} {st : List Value} {Q : Option Value → am_M → Prop} (h : ¬ y = 0) (k : am_wp X d 188 14 ls (.int (am_rem x y) :: st) σ Q) : am_wp X d 188 13 ls (.int y :: .int x :: st) σ Q := g_irem (by decide +kernel) h k
theorem s188_14 {X : am_X} {d : Nat} {ls : List Value} {σ : am_M} {st : List Value} {Q : Option Value → am_M → Prop} (k : am_wp X d 188 15 ls (.int 1 :: st) σ Q) : am_wp X d 188 14 ls st σ Q := Eq.mpr (r_ic (z := 1) (v := 1) (by decide +kernel) (by decide +kernel)) k
theorem s188_15 {X : am_X} {d : Nat} {ls : List Value} {x y : Int32} {σ : am_M} {st : List Value} {Q : Option Value → am_M → Prop} (k : am_wp X d 188 16 ls (.int (x + y) :: st) σ Q) : am_wp X d 188 15 ls (.int y :: .int x :: st) σ Q := g_iadd (by decide +kernel) k
theorem s188_16 {X : am_X} {d : Nat} {ls : List Value} {a : Nat} {x : Int32} {I : Nat → Nat → Int32} {J : Nat → Nat → Int64} {st : List Value} {Q : Option Value → am_M → Prop} (h : am_K0[a]? = some (10, 58)) (k : am_wp X d 188 19 ls st (am_N (am_up I a 35 x) J) Q) : am_wp X d 188 16 ls (.int x :: .ref a :: st) (am_N I J) Q := Eq.mpr (r_put (k := 228) (ci := 10) (f := 35) (p := 1088) (by decide +kernel) (by decide +kernel) h (Or.inl (by decide +kernel)) rfl) k
theorem s188_19 {X : am_X} {d : Nat} {v1 : Value} {x : Nat} {σ : am_M} {st : List Value} {Q : Option Value → am_M → Prop} (k : am_wp X d 188 20 [.ref x, v1] (.ref x :: st) σ Q) : am_wp X d 188 19 [.ref x, v1] st σ Q := g_aln (i := 0) (by decide +kernel) rfl k
theorem s188_19n {X : am_X} {d : Nat} {v1 : Value} {σ : am_M} {st : List Value} {Q : Option Value → am_M → Prop} (k : am_wp X d 188 20 [.null, v1] (.null :: st) σ Q) : am_wp X d 188 19 [.null, v1] st σ Q := g_aln0 (i := 0) (by decide +kernel) rfl k
theorem s188_20 {X : am_X} {d : Nat} {v0 : Value} {x : Int32} {σ : am_M} {st : List Value} {Q : Option Value → am_M → Prop} (k : am_wp X d 188 21 [v0, .int x] (.int x :: st) σ Q) : am_wp X d 188 20 [v0, .int x] st σ Q := g_iln (i := 1) (by decide +kernel) rfl k
theorem s188_21 {X : am_X} {d : Nat} {ls : List Value} {σ : am_M} {st : List Value} {Q : Option Value → am_M → Prop} (k : am_wp X d 188 23 ls (.int 24 :: st) σ Q) : am_wp X d 188 21 ls st σ Q := Eq.mpr (r_bp (z := 24) (v := 24) (by decide +kernel) (by decide +kernel)) k
theorem s188_23 {X : am_X} {d : Nat} {ls : List Value} {x y : Int32} {σ : am_M} {st : List Value} {Q : Option Value → am_M → Prop} (h : ¬ y = 0) (k : am_wp X d 188 24 ls (.int (x / y) :: st) σ Q) : am_wp X d 188 23 ls (.int y :: .int x :: st) σ Q := g_idiv (by decide +kernel) h k
theorem s188_24 {X : am_X} {d : Nat} {ls : List Value} {σ : am_M} {st : List Value} {Q : Option Value → am_M → Prop} (k : am_wp X d 188 25 ls (.int 4 :: st) σ Q) : am_wp X d 188 24 ls st σ Q := Eq.mpr (r_ic (z := 4) (v := 4) (by decide +kernel) (by decide +kernel)) k
theorem s188_25 {X : am_X} {d : Nat} {ls : List Value} {x y : Int32} {σ : am_M} {st : List Value} {Q : Option Value → am_M → Prop} (h : ¬ y = 0) (k : am_wp X d 188 26 ls (.int (am_rem x y) :: st) σ Q) : am_wp X d 188 25 ls (.int y :: .int x :: st) σ Q := g_irem (by decide +kernel) h k
theorem s188_26 {X : am_X} {d : Nat} {ls : List Value} {a : Nat} {x : Int32} {I : Nat → Nat → Int32} {J : Nat → Nat → Int64} {st : List Value} {Q : Option Value → am_M → Prop} (h : am_K0[a]? = some (10, 58)) (k : am_wp X d 188 29 ls st (am_N (am_up I a 34 x) J) Q) : am_wp X d 188 26 ls (.int x :: .ref a :: st) (am_N I J) Q := Eq.mpr (r_put (k := 231) (ci := 10) (f := 34) (p := 1087) (by decide +kernel) (by decide +kernel) h (Or.inl (by decide +kernel)) rfl) k
theorem s188_29 {X : am_X} {d : Nat} {v1 : Value} {x : Nat} {σ : am_M} {st : List Value} {Q : Option Value → am_M → Prop} (k : am_wp X d 188 30 [.ref x, v1] (.ref x :: st) σ Q) : am_wp X d 188 29 [.ref x, v1] st σ Q := g_aln (i := 0) (by decide +kernel) rfl k
theorem s188_29n {X : am_X} {d : Nat} {v1 : Value} {σ : am_M} {st : List Value} {Q : Option Value → am_M → Prop} (k : am_wp X d 188 30 [.null, v1] (.null :: st) σ Q) : am_wp X d 188 29 [.null, v1] st σ Q := g_aln0 (i := 0) (by decide +kernel) rfl k
theorem s188_30 {X : am_X} {d : Nat} {v0 : Value} {x : Int32} {σ : am_M} {st : List Value} {Q : Option Value → am_M → Prop} (k : am_wp X d 188 31 [v0, .int x] (.int x :: st) σ Q) : am_wp X d 188 30 [v0, .int x] st σ Q := g_iln (i := 1) (by decide +kernel) rfl k
theorem s188_31 {X : am_X} {d : Nat} {ls : List Value} {σ : am_M} {st : List Value} {Q : Option Value → am_M → Prop} (k : am_wp X d 188 33 ls (.int 96 :: st) σ Q) : am_wp X d 188 31 ls st σ Q := Eq.mpr (r_bp (z := 96) (v := 96) (by decide +kernel) (by decide +kernel)) k
theorem s188_33 {X : am_X} {d : Nat} {ls : List Value} {x y : Int32} {σ : am_M} {st : List Value} {Q : Option Value → am_M → Prop} (h : ¬ y = 0) (k : am_wp X d 188 34 ls (.int (x / y) :: st) σ Q) : am_wp X d 188 33 ls (.int y :: .int x :: st) σ Q := g_idiv (by decide +kernel) h k
theorem s188_34 {X : am_X} {d : Nat} {ls : List Value} {σ : am_M} {st : List Value} {Q : Option Value → am_M → Prop} (k : am_wp X d 188 36 ls (.int 12 :: st) σ Q) : am_wp X d 188 34 ls st σ Q := Eq.mpr (r_bp (z := 12) (v := 12) (by decide +kernel) (by decide +kernel)) k
theorem s188_36 {X : am_X} {d : Nat} {ls : List Value} {x y : Int32} {σ : am_M} {st : List Value} {Q : Option Value → am_M → Prop} (h : ¬ y = 0) (k : am_wp X d 188 37 ls (.int (am_rem x y) :: st) σ Q) : am_wp X d 188 36 ls (.int y :: .int x :: st) σ Q := g_irem (by decide +kernel) h k
theorem s188_37 {X : am_X} {d : Nat} {ls : List Value} {a : Nat} {x : Int32} {I : Nat → Nat → Int32} {J : Nat → Nat → Int64} {st : List Value} {Q : Option Value → am_M → Prop} (h : am_K0[a]? = some (10, 58)) (k : am_wp X d 188 40 ls st (am_N (am_up I a 33 x) J) Q) : am_wp X d 188 37 ls (.int x :: .ref a :: st) (am_N I J) Q := Eq.mpr (r_put (k := 234) (ci := 10) (f := 33) (p := 1086) (by decide +kernel) (by decide +kernel) h (Or.inl (by decide +kernel)) rfl) k
theorem s188_40 {X : am_X} {d : Nat} {v1 : Value} {x : Nat} {σ : am_M} {st : List Value} {Q : Option Value → am_M → Prop} (k : am_wp X d 188 41 [.ref x, v1] (.ref x :: st) σ Q) : am_wp X d 188 40 [.ref x, v1] st σ Q := g_aln (i := 0) (by decide +kernel) rfl k
theorem s188_40n {X : am_X} {d : Nat} {v1 : Value} {σ : am_M} {st : List Value} {Q : Option Value → am_M → Prop} (k : am_wp X d 188 41 [.null, v1] (.null :: st) σ Q) : am_wp X d 188 40 [.null, v1] st σ Q := g_aln0 (i := 0) (by decide +kernel) rfl k
theorem s188_41 {X : am_X} {d : Nat} {v0 : Value} {x : Int32} {σ : am_M} {st : List Value} {Q : Option Value → am_M → Prop} (k : am_wp X d 188 42 [v0, .int x] (.int x :: st) σ Q) : am_wp X d 188 41 [v0, .int x] st σ Q := g_iln (i := 1) (by decide +kernel) rfl k
theorem s188_42 {X : am_X} {d : Nat} {ls : List Value} {σ : am_M} {st : List Value} {Q : Option Value → am_M → Prop} (k : am_wp X d 188 45 ls (.int 1152 :: st) σ Q) : am_wp X d 188 42 ls st σ Q := Eq.mpr (r_sp (z := 1152) (v := 1152) (by decide +kernel) (by decide +kernel)) k
theorem s188_45 {X : am_X} {d : Nat} {ls : List Value} {x y : Int32} {σ : am_M} {st : List Value} {Q : Option Value → am_M → Prop} (h : ¬ y = 0) (k : am_wp X d 188 46 ls (.int (x / y) :: st) σ Q) : am_wp X d 188 45 ls (.int y :: .int x :: st) σ Q := g_idiv (by decide +kernel) h k
theorem s188_46 {X : am_X} {d : Nat} {ls : List Value} {a : Nat} {x : Int32} {I : Nat → Nat → Int32} {J : Nat → Nat → Int64} {st : List Value} {Q : Option Value → am_M → Prop} (h : am_K0[a]? = some (10, 58)) (k : am_wp X d 188 49 ls st (am_N (am_up I a 32 x) J) Q) : am_wp X d 188 46 ls (.int x :: .ref a :: st) (am_N I J) Q := Eq.mpr (r_put (k := 237) (ci := 10) (f := 32) (p := 1085) (by decide +kernel) (by decide +kernel) h (Or.inl (by decide +kernel)) rfl) k
theorem s188_49 {X : am_X} {d : Nat} {ls : List Value} {σ : am_M} {Q : Option Value → am_M → Prop} (k : Q none σ) : am_wp X d 188 49 ls [] σ Q := Eq.mpr (r_vret (by decide +kernel) (by decide +kernel)) k
theorem c_188 {X : am_X} {d : Nat} {I : Nat → Nat → Int32} {J : Nat → Nat → Int64} {Q : Option Value → am_M → Prop} {x0 : Int32} (k : Q none (am_N (am_up (am_up (am_up (am_up (am_up I 105 36 (am_rem x0 2)) 105 35 ((am_rem (x0 / 2) 12) + 1)) 105 34 (am_rem (x0 / 24) 4)) 105 33 (am_rem (x0 / 96) 12)) 105 32 (x0 / 1152)) J)) : am_wp X d 188 0 [.ref 105, .int x0] [] (am_N I J) Q := s188_0 (s188_1 (s188_2 (s188_3 (by decide) (s188_4 k0_105 (s188_7 (s188_8 (s188_9 (s188_10 (by decide) (s188_11 (s188_13 (by decide) (s188_14 (s188_15 (s188_16 k0_105 (s188_19 (s188_20 (s188_21 (s188_23 (by decide) (s188_24 (s188_25 (by decide) (s188_26 k0_105 (s188_29 (s188_30 (s188_31 (s188_33 (by decide) (s188_34 (s188_36 (by decide) (s188_37 k0_105 (s188_40 (s188_41 (s188_42 (s188_45 (by decide) (s188_46 k0_105 (s188_49 (k))))))))))))))))))))))))))))))))))
def m_lay (I : Nat → Nat → Int32) (g : Int32) : Nat → Nat → Int32 := am_up (am_up (am_up (am_up (am_up I 105 36 (am_rem g 2)) 105 35 ((am_rem (g / 2) 12) + 1)) 105 34 (am_rem (g / 24) 4)) 105 33 (am_rem (g / 96) 12)) 105 32 (g / 1152)
theorem w_lay {X : am_X} {d : Nat} {I : Nat → Nat → Int32} {J : Nat → Nat → Int64} {Q : Option Value → am_M → Prop} {x0 : Int32} (k : Q none (am_N (m_lay I x0) J)) : am_wp X d 188 0 [.ref 105, .int x0] [] (am_N I J) Q := c_188 k
theorem Inv.gs {I : Nat → Nat → Int32} (h : Inv I) : R_gs I := h.2.2.2.2.2.2.2.2.2.2
/-- a change of the reference's guess, of what fits, of the nearest: the rest stays -/
theorem Inv.ch {I I' : Nat → Nat → Int32} (h : Inv I) (hs : ∀ a k, ¬ (a = 105 ∧ 32 ≤ k) → a ≠ 136 → I' a k = I a k) (hg : R_gs I') : Inv I' := by
  obtain ⟨h1, h2, h3, h4, h5, h6, h7, h8, h9, h10, -⟩ := h
  refine ⟨?_, fun q hq => ?_, fun q j hq hj => ?_, ?_, fun q hq => ?_, ?_, fun q hq => ?_, fun q hq => ?_, fun q j hq hj => ?_, ?_, hg⟩
  · unfold R_land at h1 ⊢
    rw [hs 1 1 (by omega) (by omega), hs 105 2 (by omega) (by omega)]
    exact h1
  · have g := h2 q hq
    unfold R_house at g ⊢
    rw [hs (3 + 4 * q) 0 (by omega) (by omega), hs (3 + 4 * q) 1 (by omega) (by omega), hs (3 + 4 * q) 2 (by omega) (by omega), hs (3 + 4 * q) 3 (by omega) (by omega), hs (3 + 4 * q) 4 (by omega) (by omega), hs (3 + 4 * q) 5 (by omega) (by omega), hs (3 + 4 * q) 6 (by omega) (by omega), hs (3 + 4 * q) 7 (by omega) (by omega), hs (3 + 4 * q) 8 (by omega) (by omega), hs (3 + 4 * q) 9 (by omega) (by omega), hs (3 + 4 * q) 10 (by omega) (by omega), hs (3 + 4 * q) 11 (by omega) (by omega), hs 106 q (by omega) (by omega), hs 107 q (by omega) (by omega), hs 108 q (by omega) (by omega), hs 109 q (by omega) (by omega), hs 110 q (by omega) (by omega), hs 111 q (by omega) (by omega), hs 112 q (by omega) (by omega), hs 113 q (by omega) (by omega), hs 114 q (by omega) (by omega), hs 117 q (by omega) (by omega), hs 119 q (by omega) (by omega), hs 120 q (by omega) (by omega), hs 1 1 (by omega) (by omega)]
    exact g
  · have g := h3 q j hq hj
    unfold R_pil at g ⊢
    rw [hs (3 + 4 * q + 1) j (by omega) (by omega), hs (3 + 4 * q + 2) j (by omega) (by omega), hs (3 + 4 * q + 3) j (by omega) (by omega), hs 115 (6 * q + j) (by omega) (by omega), hs 116 (6 * q + j) (by omega) (by omega), hs 118 (6 * q + j) (by omega) (by omega), hs 114 q (by omega) (by omega)]
    exact g
  · unfold R_chain at h4 ⊢
    rw [hs 91 4 (by omega) (by omega), hs 105 21 (by omega) (by omega)]
    exact h4
  · have g := h5 q hq
    unfold R_ch at g ⊢
    rw [hs 92 q (by omega) (by omega), hs 93 q (by omega) (by omega), hs 94 q (by omega) (by omega), hs 95 q (by omega) (by omega), hs 124 q (by omega) (by omega), hs 125 q (by omega) (by omega), hs 126 q (by omega) (by omega), hs 127 q (by omega) (by omega)]
    exact g
  · unfold R_book at h6 ⊢
    rw [hs 35 2 (by omega) (by omega), hs 105 26 (by omega) (by omega)]
    exact h6
  · have g := h7 q hq
    unfold R_rep at g ⊢
    rw [hs (43 + q) 0 (by omega) (by omega), hs (43 + q) 1 (by omega) (by omega), hs (43 + q) 2 (by omega) (by omega), hs (43 + q) 3 (by omega) (by omega), hs (43 + q) 4 (by omega) (by omega), hs 128 q (by omega) (by omega), hs 129 q (by omega) (by omega), hs 130 q (by omega) (by omega), hs 131 q (by omega) (by omega), hs 132 q (by omega) (by omega), hs 35 2 (by omega) (by omega)]
    exact g
  · have g := h8 q hq
    unfold R_sheet at g ⊢
    rw [hs (97 + 2 * q) 1 (by omega) (by omega), hs (97 + 2 * q) 2 (by omega) (by omega), hs (97 + 2 * q) 3 (by omega) (by omega), hs 121 q (by omega) (by omega), hs 122 q (by omega) (by omega)]
    exact g
  · have g := h9 q j hq hj
    unfold R_cell at g ⊢
    rw [hs (97 + 2 * q + 1) j (by omega) (by omega), hs 123 (40 * q + j) (by omega) (by omega)]
    exact g
  · rw [hs 0 7 (by omega) (by omega), hs 105 1 (by omega) (by omega)]
    exact h10
theorem gR_rem {z : Int} (h1 : 0 ≤ z) (h2 : z ≤ 13823) : am_rem (Int32.ofInt z) 2 = Int32.ofInt (z % 2) ∧ am_rem (Int32.ofInt z / 2) 12 + 1 = Int32.ofInt (z / 2 % 12 + 1) ∧ am_rem (Int32.ofInt z / 24) 4 = Int32.ofInt (z / 24 % 4) ∧ am_rem (Int32.ofInt z / 96) 12 = Int32.ofInt (z / 96 % 12) ∧ Int32.ofInt z / 1152 = Int32.ofInt (z / 1152) := by
  rw [show (2 : Int32) = Int32.ofInt 2 from rfl, show (12 : Int32) = Int32.ofInt 12 from rfl, show (24 : Int32) = Int32.ofInt 24 from rfl, show (4 : Int32) = Int32.ofInt 4 from rfl, show (96 : Int32) = Int32.ofInt 96 from rfl, show (1152 : Int32) = Int32.ofInt 1152 from rfl, show (1 : Int32) = Int32.ofInt 1 from rfl]
  refine ⟨?_, ?_, ?_, ?_, ?_⟩
  · rw [oi_rem (by omega) (by omega) (by omega) (by omega)]
  · rw [oi_div (by omega) (by omega) (by omega) (by omega), oi_rem (by omega) (by omega) (by omega) (by omega), oi_add]
  · rw [oi_div (by omega) (by omega) (by omega) (by omega), oi_rem (by omega) (by omega) (by omega) (by omega)]
  · rw [oi_div (by omega) (by omega) (by omega) (by omega), oi_rem (by omega) (by omega) (by omega) (by omega)]
  · rw [oi_div (by omega) (by omega) (by omega) (by omega)]
theorem Inv.lay {I : Nat → Nat → Int32} {g : Int32} (h : Inv I) (hg : gR g 0 13823) : Inv (m_lay I g) := by
  obtain ⟨z, h1, h2, rfl⟩ := hg
  obtain ⟨e1, e2, e3, e4, e5⟩ := gR_rem h1 h2
  obtain ⟨g1, g2, g3, g4⟩ := h.gs
  refine h.ch (fun a k hk _ => ?_) ⟨⟨⟨z / 1152, by omega, by omega, e5⟩, ⟨z / 96 % 12, by omega, by omega, e4⟩, ⟨z / 24 % 4, by omega, by omega, e3⟩, ⟨z / 2 % 12 + 1, by omega, by omega, e2⟩, ?_⟩, g2, g3, fun q hq hl => g4 q hq hl⟩
  · unfold m_lay
    by_cases ha : a = 105
    · subst ha
      rw [am_up_k (by omega), am_up_k (by omega), am_up_k (by omega), am_up_k (by omega), am_up_k (by omega)]
    · rw [am_up_ne ha, am_up_ne ha, am_up_ne ha, am_up_ne ha, am_up_ne ha]
  · show gB (am_rem (Int32.ofInt z) 2)
    rw [e1]
    have : z % 2 = 0 ∨ z % 2 = 1 := by omega
    rcases this with e | e <;> rw [e]
    · exact Or.inl rfl
    · exact Or.inr rfl
theorem Inv.up48 {I : Nat → Nat → Int32} {g : Int32} (h : Inv I) (hg : gR g 0 13823) : Inv (am_up I 105 48 g) := by
  obtain ⟨g1, g2, g3, g4⟩ := h.gs
  refine h.ch (fun a k hk _ => ?_) ⟨g1, g2, hg, g4⟩
  by_cases ha : a = 105
  · subst ha
    exact am_up_k (by omega)
  · rw [am_up_ne ha]
theorem Inv.g48 {I : Nat → Nat → Int32} (h : Inv I) : gR (I 105 48) 0 13823 := h.gs.2.2.1
theorem Inv.le43 {I : Nat → Nat → Int32} (h : Inv I) : I 105 43 ≤ Int32.ofInt ((13824 : Nat) : Int) := h.gs.2.1.le (by omega) (by omega)
theorem Inv.fitm {I : Nat → Nat → Int32} (h : Inv I) {m : Nat} (hm : m < 13824) (hl : ¬ I 105 43 ≤ Int32.ofInt (m : Int)) : gR (I 136 (Int32.toNatClampNeg (Int32.ofInt (m : Int)))) 0 13823 := by
  rw [oi_cln (by omega)]
  exact h.gs.2.2.2 m hm (Int32.not_le.mp hl)
theorem Inv.fit0 {I : Nat → Nat → Int32} (h : Inv I) (hl : ¬ I 105 43 = 0) : gR (I 136 0) 0 13823 := by
  refine h.gs.2.2.2 0 (by decide) ?_
  obtain ⟨z, h1, h2, e⟩ := h.gs.2.1
  rw [e] at hl ⊢
  rw [oi_lt (by omega) (by omega)]
  rcases Int.lt_or_eq_of_le h1 with q | q
  · exact q
  · exact absurd (by rw [← q]; rfl) hl
theorem Inv.fitx {I : Nat → Nat → Int32} (h : Inv I) {x : Int32} (h1 : ¬ x < 0) (h2 : x < I 105 43) : am_ix x 13824 ∧ gR (I 136 (Int32.toNatClampNeg x)) 0 13823 := by
  obtain ⟨z, rfl, a1, a2⟩ := oi_of x
  have h1' : ¬ Int32.ofInt z < Int32.ofInt 0 := h1
  rw [oi_lt (by omega) (by omega)] at h1'
  have h3 := h2
  obtain ⟨n, b1, b2, e⟩ := h.gs.2.1
  rw [e, oi_lt (by omega) (by omega)] at h3
  refine ⟨oi_ix (by omega) (by omega) (by omega), ?_⟩
  rw [oi_cl (by omega)]
  refine h.gs.2.2.2 z.toNat (by omega) ?_
  rw [show ((z.toNat : Nat) : Int) = z by omega]
  exact h2
theorem Inv.ixMH {I : Nat → Nat → Int32} (h : Inv I) {r : Nat} (hr : r < 40) : am_ix (I 129 r) 8 := (h.2.2.2.2.2.2.1 r hr).2.2.2.2.2.1.ix (by omega) (by omega)
theorem Inv.ixRep {I : Nat → Nat → Int32} (h : Inv I) {x : Int32} (hp : ¬ v_isReport I x = 0) : am_ix x 40 := by
  unfold v_isReport at hp
  by_cases h1 : x < 0
  · rw [if_pos h1] at hp
    exact absurd rfl hp
  · rw [if_neg h1] at hp
    by_cases h2 : I 105 26 ≤ x
    · rw [if_pos h2] at hp
      exact absurd rfl hp
    · exact am_ix_of rfl (by decide) h1 (fun h3 => h2 (Int32.le_trans h.mle40 h3))
theorem Inv.ixHs {I : Nat → Nat → Int32} (h : Inv I) {x : Int32} (hp : ¬ v_isHouse I x = 0) : am_ix x 8 := by
  unfold v_isHouse at hp
  by_cases h1 : x < 0
  · rw [if_pos h1] at hp
    exact absurd rfl hp
  · rw [if_neg h1] at hp
    by_cases h2 : I 105 2 ≤ x
    · rw [if_pos h2] at hp
      exact absurd rfl hp
    · exact am_ix_of rfl (by decide) h1 (fun h3 => h2 (Int32.le_trans h.mle8 h3))
theorem Inv.ixFall {I : Nat → Nat → Int32} (h : Inv I) {x : Int32} (hx : am_ix x 40) (h1 : I 128 (Int32.toNatClampNeg x) = 1) : am_ix ((6 * (I 129 (Int32.toNatClampNeg x))) + (I 130 (Int32.toNatClampNeg x))) 48 := by
  have g := h.2.2.2.2.2.2.1 _ (am_ix_lt hx)
  obtain ⟨a, a1, a2, ea⟩ := g.2.2.2.2.2.1
  obtain ⟨b, b1, b2, eb⟩ := g.2.2.2.2.2.2.2 h1
  rw [ea, eb, show (6 : Int32) = Int32.ofInt 6 from rfl, oi_mul, oi_add]
  exact oi_ix (by omega) (by omega) (by omega)
theorem sqb {d : Int} (h1 : -11 ≤ d) (h2 : d ≤ 11) : 0 ≤ d * d ∧ d * d ≤ 121 := by
  have e : d * d = ((d.natAbs * d.natAbs : Nat) : Int) := (Int.natAbs_mul_self).symm
  have a : d.natAbs ≤ 11 := by omega
  have b : d.natAbs * d.natAbs ≤ 11 * 11 := Nat.mul_le_mul a a
  rw [e]
  omega
theorem farR {x gx y gy z : Int32} (hx : gR x 0 11) (hgx : gR gx 0 11) (hy : gR y 0 11) (hgy : gR gy 0 11) (hz : gR z 0 3) : gR (v_m_farOf (x - gx) (y - gy) z) 0 323 := by
  obtain ⟨a, a1, a2, rfl⟩ := hx
  obtain ⟨b, b1, b2, rfl⟩ := hgx
  obtain ⟨c, c1, c2, rfl⟩ := hy
  obtain ⟨e, e1, e2, rfl⟩ := hgy
  obtain ⟨f, f1, f2, rfl⟩ := hz
  unfold v_m_farOf
  rw [show (9 : Int32) = Int32.ofInt 9 from rfl, oi_sub, oi_sub, oi_mul, oi_mul, oi_mul, oi_mul, oi_add, oi_add]
  have s1 := sqb (d := a - b) (by omega) (by omega)
  have s2 := sqb (d := c - e) (by omega) (by omega)
  have : f = 0 ∨ f = 1 ∨ f = 2 ∨ f = 3 := by omega
  refine ⟨_, ?_, ?_, rfl⟩
  · rcases this with rfl | rfl | rfl | rfl <;> omega
  · rcases this with rfl | rfl | rfl | rfl <;> omega
theorem Inv.far {I : Nat → Nat → Int32} (h : Inv I) {x : Int32} (hx : am_ix x 8) : gR (v_m_farOf ((I 107 (Int32.toNatClampNeg x)) - (I 105 32)) ((I 108 (Int32.toNatClampNeg x)) - (I 105 33)) (I 105 34)) 0 323 := by
  have g := (h.2.1 _ (am_ix_lt hx)).2.2.1
  exact farR g.2.1 h.gs.1.1 g.2.2.1 h.gs.1.2.1 h.gs.1.2.2.1
theorem divR {f : Int32} (h : gR f 0 323) : ¬ 12 + f = 0 := by
  obtain ⟨z, h1, h2, rfl⟩ := h
  intro e
  have e : Int32.ofInt 12 + Int32.ofInt z = Int32.ofInt 0 := e
  rw [oi_add, oi_eq (by omega) (by omega)] at e
  omega
theorem rootR {f : Int32} (h : gR f 0 323) : gR (4 * f) 0 1300 := by
  obtain ⟨z, h1, h2, rfl⟩ := h
  rw [show (4 : Int32) = Int32.ofInt 4 from rfl, oi_mul]
  exact ⟨_, by omega, by omega, rfl⟩
theorem rootFin {x : Int32} (h : gR x 0 1300) : x < (Int32.ofInt ((40 : Nat) : Int) + 1) * (Int32.ofInt ((40 : Nat) : Int) + 1) := by
  obtain ⟨z, h1, h2, rfl⟩ := h
  rw [show (1 : Int32) = Int32.ofInt 1 from rfl, oi_add, oi_mul, oi_lt (by omega) (by omega)]
  omega
def Fx (a k : Nat) : Prop := (a = 105 ∧ (k = 43 ∨ k = 48)) ∨ a = 136 ∨ a = 138
def fx (I I' : Nat → Nat → Int32) : Prop := ∀ a k, Fx a k → I' a k = I a k
theorem fx.rf {I : Nat → Nat → Int32} : fx I I := fun _ _ _ => rfl
theorem fx.tr {I I' I'' : Nat → Nat → Int32} (h : fx I I') (h' : fx I' I'') : fx I I'' := fun a k hk => (h' a k hk).trans (h a k hk)
theorem fx.up {I I' : Nat → Nat → Int32} {a k : Nat} {v : Int32} (h : fx I I') (hs : ¬ Fx a k) : fx I (am_up I' a k v) := by
  intro c j hc
  rw [← h c j hc]
  by_cases h1 : c = a
  · subst h1
    by_cases h2 : j = k
    · subst h2
      exact absurd hc hs
    · exact am_up_k h2
  · rw [am_up_ne h1]
theorem fx.lay {I I' : Nat → Nat → Int32} {g : Int32} (h : fx I I') : fx I (m_lay I' g) := by
  unfold m_lay
  exact ((((h.up (by unfold Fx; omega)).up (by unfold Fx; omega)).up (by unfold Fx; omega)).up (by unfold Fx; omega)).up (by unfold Fx; omega)
