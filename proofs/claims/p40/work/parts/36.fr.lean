theorem am_upv {α : Type} (f : Nat → Nat → α) (a k : Nat) (v : α) (c j : Nat) : am_up f a k v c j = if c = a ∧ j = k then v else f c j := by
  by_cases h1 : c = a
  · subst h1
    by_cases h2 : j = k
    · subst h2
      rw [am_up_at, if_pos ⟨rfl, rfl⟩]
    · rw [am_up_k h2, if_neg (fun q => h2 q.2)]
  · rw [am_up_ne h1, if_neg (fun q => h1 q.1)]
theorem am_filv (I : Nat → Nat → Int32) (a n : Nat) (v : Int32) (c j : Nat) : am_fil I a n v c j = if c = a ∧ j < n then v else I c j := rfl
theorem Inv.f_house {I I' : Nat → Nat → Int32} {n : Nat} (h : Inv I) (hn : n < 8) (hs : ∀ a k, ¬ ((3 + 4 * n ≤ a ∧ a ≤ 6 + 4 * n) ∨ ((106 ≤ a ∧ a ≤ 114 ∨ a = 117 ∨ a = 119 ∨ a = 120) ∧ k = n) ∨ ((a = 115 ∨ a = 116 ∨ a = 118) ∧ 6 * n ≤ k ∧ k < 6 * n + 6)) → ¬ Sc a k → I' a k = I a k) (g_house : R_house I' n) (g_pil : ∀ j, j < 6 → R_pil I' n j) : Inv I' := by
  obtain ⟨h1, h2, h3, h4, h5, h6, h7, h8, h9, h10, h11⟩ := h
  have e : ∀ {a k : Nat}, (((a ≠ 0 ∨ k ≠ 8) ∧ (a ≠ 35 ∨ k < 9) ∧ (a < 37 ∨ 42 < a) ∧ (a < 83 ∨ 90 < a) ∧ (a ≠ 105 ∨ (k ≠ 0 ∧ (k < 37 ∨ k = 43 ∨ k = 48))) ∧ (a < 133 ∨ a = 136 ∨ a = 138)) ∧ ¬ ((3 + 4 * n ≤ a ∧ a ≤ 6 + 4 * n) ∨ ((106 ≤ a ∧ a ≤ 114 ∨ a = 117 ∨ a = 119 ∨ a = 120) ∧ k = n) ∨ ((a = 115 ∨ a = 116 ∨ a = 118) ∧ 6 * n ≤ k ∧ k < 6 * n + 6))) → I' a k = I a k := fun hh => hs _ _ hh.2 (nSc hh.1)
  refine ⟨?_, fun q hq => ?_, fun q j hq hj => ?_, ?_, fun q hq => ?_, ?_, fun q hq => ?_, fun q hq => ?_, fun q j hq hj => ?_, ?_, ?_⟩
  · have g := h1
    unfold R_land at g ⊢
    rw [e (a := 1) (k := 1) (by omega), e (a := 105) (k := 2) (by omega)]
    exact g
  · by_cases hqn : q = n
    · subst hqn
      exact g_house
    · have g := h2 q hq
      unfold R_house at g ⊢
      rw [e (a := 3 + 4 * q) (k := 0) (by omega), e (a := 3 + 4 * q) (k := 1) (by omega), e (a := 3 + 4 * q) (k := 2) (by omega), e (a := 3 + 4 * q) (k := 3) (by omega), e (a := 3 + 4 * q) (k := 4) (by omega), e (a := 3 + 4 * q) (k := 5) (by omega), e (a := 3 + 4 * q) (k := 6) (by omega), e (a := 3 + 4 * q) (k := 7) (by omega), e (a := 3 + 4 * q) (k := 8) (by omega), e (a := 3 + 4 * q) (k := 9) (by omega), e (a := 3 + 4 * q) (k := 10) (by omega), e (a := 3 + 4 * q) (k := 11) (by omega), e (a := 106) (k := q) (by omega), e (a := 107) (k := q) (by omega), e (a := 108) (k := q) (by omega), e (a := 109) (k := q) (by omega), e (a := 110) (k := q) (by omega), e (a := 111) (k := q) (by omega), e (a := 112) (k := q) (by omega), e (a := 113) (k := q) (by omega), e (a := 114) (k := q) (by omega), e (a := 117) (k := q) (by omega), e (a := 119) (k := q) (by omega), e (a := 120) (k := q) (by omega), e (a := 1) (k := 1) (by omega)]
      exact g
  · by_cases hqn : q = n
    · subst hqn
      exact g_pil j hj
    · have g := h3 q j hq hj
      unfold R_pil at g ⊢
      rw [e (a := 3 + 4 * q + 1) (k := j) (by omega), e (a := 3 + 4 * q + 2) (k := j) (by omega), e (a := 3 + 4 * q + 3) (k := j) (by omega), e (a := 115) (k := 6 * q + j) (by omega), e (a := 116) (k := 6 * q + j) (by omega), e (a := 118) (k := 6 * q + j) (by omega), e (a := 114) (k := q) (by omega)]
      exact g
  · have g := h4
    unfold R_chain at g ⊢
    rw [e (a := 91) (k := 4) (by omega), e (a := 105) (k := 21) (by omega)]
    exact g
  · have g := h5 q hq
    unfold R_ch at g ⊢
    rw [e (a := 92) (k := q) (by omega), e (a := 93) (k := q) (by omega), e (a := 94) (k := q) (by omega), e (a := 95) (k := q) (by omega), e (a := 124) (k := q) (by omega), e (a := 125) (k := q) (by omega), e (a := 126) (k := q) (by omega), e (a := 127) (k := q) (by omega)]
    exact g
  · have g := h6
    unfold R_book at g ⊢
    rw [e (a := 35) (k := 2) (by omega), e (a := 105) (k := 26) (by omega)]
    exact g
  · have g := h7 q hq
    unfold R_rep at g ⊢
    rw [e (a := 43 + q) (k := 0) (by omega), e (a := 43 + q) (k := 1) (by omega), e (a := 43 + q) (k := 2) (by omega), e (a := 43 + q) (k := 3) (by omega), e (a := 43 + q) (k := 4) (by omega), e (a := 128) (k := q) (by omega), e (a := 129) (k := q) (by omega), e (a := 130) (k := q) (by omega), e (a := 131) (k := q) (by omega), e (a := 132) (k := q) (by omega), e (a := 35) (k := 2) (by omega)]
    exact g
  · have g := h8 q hq
    unfold R_sheet at g ⊢
    rw [e (a := 97 + 2 * q) (k := 1) (by omega), e (a := 97 + 2 * q) (k := 2) (by omega), e (a := 97 + 2 * q) (k := 3) (by omega), e (a := 121) (k := q) (by omega), e (a := 122) (k := q) (by omega)]
    exact g
  · have g := h9 q j hq hj
    unfold R_cell at g ⊢
    rw [e (a := 97 + 2 * q + 1) (k := j) (by omega), e (a := 123) (k := 40 * q + j) (by omega)]
    exact g
  · have g := h10
    rw [e (a := 0) (k := 7) (by omega), e (a := 105) (k := 1) (by omega)]
    exact g
  · unfold R_gs at h11 ⊢
    rw [e (a := 105) (k := 32) (by omega), e (a := 105) (k := 33) (by omega), e (a := 105) (k := 34) (by omega), e (a := 105) (k := 35) (by omega), e (a := 105) (k := 36) (by omega), e (a := 105) (k := 43) (by omega), e (a := 105) (k := 48) (by omega)]
    refine ⟨h11.1, h11.2.1, h11.2.2.1, fun q hq hl => ?_⟩
    rw [e (a := 136) (k := q) (by omega)]
    exact h11.2.2.2 q hq hl
theorem Inv.f_land {I I' : Nat → Nat → Int32} {n : Nat} (h : Inv I) (hn : n < 8) (hs : ∀ a k, ¬ ((3 + 4 * n ≤ a ∧ a ≤ 6 + 4 * n) ∨ ((106 ≤ a ∧ a ≤ 114 ∨ a = 117 ∨ a = 119 ∨ a = 120) ∧ k = n) ∨ ((a = 115 ∨ a = 116 ∨ a = 118) ∧ 6 * n ≤ k ∧ k < 6 * n + 6) ∨ (a = 1 ∧ k = 1) ∨ (a = 105 ∧ k = 2)) → ¬ Sc a k → I' a k = I a k) (g_land : R_land I') (g_house : ∀ q, q < 8 → R_house I' q) (g_pil : ∀ j, j < 6 → R_pil I' n j) : Inv I' := by
  obtain ⟨h1, h2, h3, h4, h5, h6, h7, h8, h9, h10, h11⟩ := h
  have e : ∀ {a k : Nat}, (((a ≠ 0 ∨ k ≠ 8) ∧ (a ≠ 35 ∨ k < 9) ∧ (a < 37 ∨ 42 < a) ∧ (a < 83 ∨ 90 < a) ∧ (a ≠ 105 ∨ (k ≠ 0 ∧ (k < 37 ∨ k = 43 ∨ k = 48))) ∧ (a < 133 ∨ a = 136 ∨ a = 138)) ∧ ¬ ((3 + 4 * n ≤ a ∧ a ≤ 6 + 4 * n) ∨ ((106 ≤ a ∧ a ≤ 114 ∨ a = 117 ∨ a = 119 ∨ a = 120) ∧ k = n) ∨ ((a = 115 ∨ a = 116 ∨ a = 118) ∧ 6 * n ≤ k ∧ k < 6 * n + 6) ∨ (a = 1 ∧ k = 1) ∨ (a = 105 ∧ k = 2))) → I' a k = I a k := fun hh => hs _ _ hh.2 (nSc hh.1)
  refine ⟨?_, fun q hq => ?_, fun q j hq hj => ?_, ?_, fun q hq => ?_, ?_, fun q hq => ?_, fun q hq => ?_, fun q j hq hj => ?_, ?_, ?_⟩
  · exact g_land
  · exact g_house q hq
  · by_cases hqn : q = n
    · subst hqn
      exact g_pil j hj
    · have g := h3 q j hq hj
      unfold R_pil at g ⊢
      rw [e (a := 3 + 4 * q + 1) (k := j) (by omega), e (a := 3 + 4 * q + 2) (k := j) (by omega), e (a := 3 + 4 * q + 3) (k := j) (by omega), e (a := 115) (k := 6 * q + j) (by omega), e (a := 116) (k := 6 * q + j) (by omega), e (a := 118) (k := 6 * q + j) (by omega), e (a := 114) (k := q) (by omega)]
      exact g
  · have g := h4
    unfold R_chain at g ⊢
    rw [e (a := 91) (k := 4) (by omega), e (a := 105) (k := 21) (by omega)]
    exact g
  · have g := h5 q hq
    unfold R_ch at g ⊢
    rw [e (a := 92) (k := q) (by omega), e (a := 93) (k := q) (by omega), e (a := 94) (k := q) (by omega), e (a := 95) (k := q) (by omega), e (a := 124) (k := q) (by omega), e (a := 125) (k := q) (by omega), e (a := 126) (k := q) (by omega), e (a := 127) (k := q) (by omega)]
    exact g
  · have g := h6
    unfold R_book at g ⊢
    rw [e (a := 35) (k := 2) (by omega), e (a := 105) (k := 26) (by omega)]
    exact g
  · have g := h7 q hq
    unfold R_rep at g ⊢
    rw [e (a := 43 + q) (k := 0) (by omega), e (a := 43 + q) (k := 1) (by omega), e (a := 43 + q) (k := 2) (by omega), e (a := 43 + q) (k := 3) (by omega), e (a := 43 + q) (k := 4) (by omega), e (a := 128) (k := q) (by omega), e (a := 129) (k := q) (by omega), e (a := 130) (k := q) (by omega), e (a := 131) (k := q) (by omega), e (a := 132) (k := q) (by omega), e (a := 35) (k := 2) (by omega)]
    exact g
  · have g := h8 q hq
    unfold R_sheet at g ⊢
    rw [e (a := 97 + 2 * q) (k := 1) (by omega), e (a := 97 + 2 * q) (k := 2) (by omega), e (a := 97 + 2 * q) (k := 3) (by omega), e (a := 121) (k := q) (by omega), e (a := 122) (k := q) (by omega)]
    exact g
  · have g := h9 q j hq hj
    unfold R_cell at g ⊢
    rw [e (a := 97 + 2 * q + 1) (k := j) (by omega), e (a := 123) (k := 40 * q + j) (by omega)]
    exact g
  · have g := h10
    rw [e (a := 0) (k := 7) (by omega), e (a := 105) (k := 1) (by omega)]
    exact g
  · unfold R_gs at h11 ⊢
    rw [e (a := 105) (k := 32) (by omega), e (a := 105) (k := 33) (by omega), e (a := 105) (k := 34) (by omega), e (a := 105) (k := 35) (by omega), e (a := 105) (k := 36) (by omega), e (a := 105) (k := 43) (by omega), e (a := 105) (k := 48) (by omega)]
    refine ⟨h11.1, h11.2.1, h11.2.2.1, fun q hq hl => ?_⟩
    rw [e (a := 136) (k := q) (by omega)]
    exact h11.2.2.2 q hq hl
theorem Inv.f_book {I I' : Nat → Nat → Int32} {n : Nat} (h : Inv I) (hn : n < 40) (hs : ∀ a k, ¬ ((a = 35 ∧ k = 2) ∨ (a = 105 ∧ k = 26) ∨ a = 43 + n ∨ (128 ≤ a ∧ a ≤ 132 ∧ k = n)) → ¬ Sc a k → I' a k = I a k) (g_book : R_book I') (g_rep : ∀ q, q < 40 → R_rep I' q) : Inv I' := by
  obtain ⟨h1, h2, h3, h4, h5, h6, h7, h8, h9, h10, h11⟩ := h
  have e : ∀ {a k : Nat}, (((a ≠ 0 ∨ k ≠ 8) ∧ (a ≠ 35 ∨ k < 9) ∧ (a < 37 ∨ 42 < a) ∧ (a < 83 ∨ 90 < a) ∧ (a ≠ 105 ∨ (k ≠ 0 ∧ (k < 37 ∨ k = 43 ∨ k = 48))) ∧ (a < 133 ∨ a = 136 ∨ a = 138)) ∧ ¬ ((a = 35 ∧ k = 2) ∨ (a = 105 ∧ k = 26) ∨ a = 43 + n ∨ (128 ≤ a ∧ a ≤ 132 ∧ k = n))) → I' a k = I a k := fun hh => hs _ _ hh.2 (nSc hh.1)
  refine ⟨?_, fun q hq => ?_, fun q j hq hj => ?_, ?_, fun q hq => ?_, ?_, fun q hq => ?_, fun q hq => ?_, fun q j hq hj => ?_, ?_, ?_⟩
  · have g := h1
    unfold R_land at g ⊢
    rw [e (a := 1) (k := 1) (by omega), e (a := 105) (k := 2) (by omega)]
    exact g
  · have g := h2 q hq
    unfold R_house at g ⊢
    rw [e (a := 3 + 4 * q) (k := 0) (by omega), e (a := 3 + 4 * q) (k := 1) (by omega), e (a := 3 + 4 * q) (k := 2) (by omega), e (a := 3 + 4 * q) (k := 3) (by omega), e (a := 3 + 4 * q) (k := 4) (by omega), e (a := 3 + 4 * q) (k := 5) (by omega), e (a := 3 + 4 * q) (k := 6) (by omega), e (a := 3 + 4 * q) (k := 7) (by omega), e (a := 3 + 4 * q) (k := 8) (by omega), e (a := 3 + 4 * q) (k := 9) (by omega), e (a := 3 + 4 * q) (k := 10) (by omega), e (a := 3 + 4 * q) (k := 11) (by omega), e (a := 106) (k := q) (by omega), e (a := 107) (k := q) (by omega), e (a := 108) (k := q) (by omega), e (a := 109) (k := q) (by omega), e (a := 110) (k := q) (by omega), e (a := 111) (k := q) (by omega), e (a := 112) (k := q) (by omega), e (a := 113) (k := q) (by omega), e (a := 114) (k := q) (by omega), e (a := 117) (k := q) (by omega), e (a := 119) (k := q) (by omega), e (a := 120) (k := q) (by omega), e (a := 1) (k := 1) (by omega)]
    exact g
  · have g := h3 q j hq hj
    unfold R_pil at g ⊢
    rw [e (a := 3 + 4 * q + 1) (k := j) (by omega), e (a := 3 + 4 * q + 2) (k := j) (by omega), e (a := 3 + 4 * q + 3) (k := j) (by omega), e (a := 115) (k := 6 * q + j) (by omega), e (a := 116) (k := 6 * q + j) (by omega), e (a := 118) (k := 6 * q + j) (by omega), e (a := 114) (k := q) (by omega)]
    exact g
  · have g := h4
    unfold R_chain at g ⊢
    rw [e (a := 91) (k := 4) (by omega), e (a := 105) (k := 21) (by omega)]
    exact g
  · have g := h5 q hq
    unfold R_ch at g ⊢
    rw [e (a := 92) (k := q) (by omega), e (a := 93) (k := q) (by omega), e (a := 94) (k := q) (by omega), e (a := 95) (k := q) (by omega), e (a := 124) (k := q) (by omega), e (a := 125) (k := q) (by omega), e (a := 126) (k := q) (by omega), e (a := 127) (k := q) (by omega)]
    exact g
  · exact g_book
  · exact g_rep q hq
  · have g := h8 q hq
    unfold R_sheet at g ⊢
    rw [e (a := 97 + 2 * q) (k := 1) (by omega), e (a := 97 + 2 * q) (k := 2) (by omega), e (a := 97 + 2 * q) (k := 3) (by omega), e (a := 121) (k := q) (by omega), e (a := 122) (k := q) (by omega)]
    exact g
  · have g := h9 q j hq hj
    unfold R_cell at g ⊢
    rw [e (a := 97 + 2 * q + 1) (k := j) (by omega), e (a := 123) (k := 40 * q + j) (by omega)]
    exact g
  · have g := h10
    rw [e (a := 0) (k := 7) (by omega), e (a := 105) (k := 1) (by omega)]
    exact g
  · unfold R_gs at h11 ⊢
    rw [e (a := 105) (k := 32) (by omega), e (a := 105) (k := 33) (by omega), e (a := 105) (k := 34) (by omega), e (a := 105) (k := 35) (by omega), e (a := 105) (k := 36) (by omega), e (a := 105) (k := 43) (by omega), e (a := 105) (k := 48) (by omega)]
    refine ⟨h11.1, h11.2.1, h11.2.2.1, fun q hq hl => ?_⟩
    rw [e (a := 136) (k := q) (by omega)]
    exact h11.2.2.2 q hq hl
theorem Inv.f_chain {I I' : Nat → Nat → Int32} {n : Nat} (h : Inv I) (hn : n < 12) (hs : ∀ a k, ¬ ((a = 91 ∧ k = 4) ∨ (a = 105 ∧ k = 21) ∨ ((92 ≤ a ∧ a ≤ 95 ∨ 124 ≤ a ∧ a ≤ 127) ∧ k = n)) → ¬ Sc a k → I' a k = I a k) (g_chain : R_chain I') (g_ch : R_ch I' n) : Inv I' := by
  obtain ⟨h1, h2, h3, h4, h5, h6, h7, h8, h9, h10, h11⟩ := h
  have e : ∀ {a k : Nat}, (((a ≠ 0 ∨ k ≠ 8) ∧ (a ≠ 35 ∨ k < 9) ∧ (a < 37 ∨ 42 < a) ∧ (a < 83 ∨ 90 < a) ∧ (a ≠ 105 ∨ (k ≠ 0 ∧ (k < 37 ∨ k = 43 ∨ k = 48))) ∧ (a < 133 ∨ a = 136 ∨ a = 138)) ∧ ¬ ((a = 91 ∧ k = 4) ∨ (a = 105 ∧ k = 21) ∨ ((92 ≤ a ∧ a ≤ 95 ∨ 124 ≤ a ∧ a ≤ 127) ∧ k = n))) → I' a k = I a k := fun hh => hs _ _ hh.2 (nSc hh.1)
  refine ⟨?_, fun q hq => ?_, fun q j hq hj => ?_, ?_, fun q hq => ?_, ?_, fun q hq => ?_, fun q hq => ?_, fun q j hq hj => ?_, ?_, ?_⟩
  · have g := h1
    unfold R_land at g ⊢
    rw [e (a := 1) (k := 1) (by omega), e (a := 105) (k := 2) (by omega)]
    exact g
  · have g := h2 q hq
    unfold R_house at g ⊢
    rw [e (a := 3 + 4 * q) (k := 0) (by omega), e (a := 3 + 4 * q) (k := 1) (by omega), e (a := 3 + 4 * q) (k := 2) (by omega), e (a := 3 + 4 * q) (k := 3) (by omega), e (a := 3 + 4 * q) (k := 4) (by omega), e (a := 3 + 4 * q) (k := 5) (by omega), e (a := 3 + 4 * q) (k := 6) (by omega), e (a := 3 + 4 * q) (k := 7) (by omega), e (a := 3 + 4 * q) (k := 8) (by omega), e (a := 3 + 4 * q) (k := 9) (by omega), e (a := 3 + 4 * q) (k := 10) (by omega), e (a := 3 + 4 * q) (k := 11) (by omega), e (a := 106) (k := q) (by omega), e (a := 107) (k := q) (by omega), e (a := 108) (k := q) (by omega), e (a := 109) (k := q) (by omega), e (a := 110) (k := q) (by omega), e (a := 111) (k := q) (by omega), e (a := 112) (k := q) (by omega), e (a := 113) (k := q) (by omega), e (a := 114) (k := q) (by omega), e (a := 117) (k := q) (by omega), e (a := 119) (k := q) (by omega), e (a := 120) (k := q) (by omega), e (a := 1) (k := 1) (by omega)]
    exact g
  · have g := h3 q j hq hj
    unfold R_pil at g ⊢
    rw [e (a := 3 + 4 * q + 1) (k := j) (by omega), e (a := 3 + 4 * q + 2) (k := j) (by omega), e (a := 3 + 4 * q + 3) (k := j) (by omega), e (a := 115) (k := 6 * q + j) (by omega), e (a := 116) (k := 6 * q + j) (by omega), e (a := 118) (k := 6 * q + j) (by omega), e (a := 114) (k := q) (by omega)]
    exact g
  · exact g_chain
  · by_cases hqn : q = n
    · subst hqn
      exact g_ch
    · have g := h5 q hq
      unfold R_ch at g ⊢
      rw [e (a := 92) (k := q) (by omega), e (a := 93) (k := q) (by omega), e (a := 94) (k := q) (by omega), e (a := 95) (k := q) (by omega), e (a := 124) (k := q) (by omega), e (a := 125) (k := q) (by omega), e (a := 126) (k := q) (by omega), e (a := 127) (k := q) (by omega)]
      exact g
  · have g := h6
    unfold R_book at g ⊢
    rw [e (a := 35) (k := 2) (by omega), e (a := 105) (k := 26) (by omega)]
    exact g
  · have g := h7 q hq
    unfold R_rep at g ⊢
    rw [e (a := 43 + q) (k := 0) (by omega), e (a := 43 + q) (k := 1) (by omega), e (a := 43 + q) (k := 2) (by omega), e (a := 43 + q) (k := 3) (by omega), e (a := 43 + q) (k := 4) (by omega), e (a := 128) (k := q) (by omega), e (a := 129) (k := q) (by omega), e (a := 130) (k := q) (by omega), e (a := 131) (k := q) (by omega), e (a := 132) (k := q) (by omega), e (a := 35) (k := 2) (by omega)]
    exact g
  · have g := h8 q hq
    unfold R_sheet at g ⊢
    rw [e (a := 97 + 2 * q) (k := 1) (by omega), e (a := 97 + 2 * q) (k := 2) (by omega), e (a := 97 + 2 * q) (k := 3) (by omega), e (a := 121) (k := q) (by omega), e (a := 122) (k := q) (by omega)]
    exact g
  · have g := h9 q j hq hj
    unfold R_cell at g ⊢
    rw [e (a := 97 + 2 * q + 1) (k := j) (by omega), e (a := 123) (k := 40 * q + j) (by omega)]
    exact g
  · have g := h10
    rw [e (a := 0) (k := 7) (by omega), e (a := 105) (k := 1) (by omega)]
    exact g
  · unfold R_gs at h11 ⊢
    rw [e (a := 105) (k := 32) (by omega), e (a := 105) (k := 33) (by omega), e (a := 105) (k := 34) (by omega), e (a := 105) (k := 35) (by omega), e (a := 105) (k := 36) (by omega), e (a := 105) (k := 43) (by omega), e (a := 105) (k := 48) (by omega)]
    refine ⟨h11.1, h11.2.1, h11.2.2.1, fun q hq hl => ?_⟩
    rw [e (a := 136) (k := q) (by omega)]
    exact h11.2.2.2 q hq hl
theorem Inv.f_sheet {I I' : Nat → Nat → Int32} {n : Nat} (h : Inv I) (hn : n < 4) (hs : ∀ a k, ¬ (a = 97 + 2 * n ∨ a = 98 + 2 * n ∨ ((a = 121 ∨ a = 122) ∧ k = n) ∨ (a = 123 ∧ 40 * n ≤ k ∧ k < 40 * n + 40)) → ¬ Sc a k → I' a k = I a k) (g_sheet : R_sheet I' n) (g_cell : ∀ j, j < 40 → R_cell I' n j) : Inv I' := by
  obtain ⟨h1, h2, h3, h4, h5, h6, h7, h8, h9, h10, h11⟩ := h
  have e : ∀ {a k : Nat}, (((a ≠ 0 ∨ k ≠ 8) ∧ (a ≠ 35 ∨ k < 9) ∧ (a < 37 ∨ 42 < a) ∧ (a < 83 ∨ 90 < a) ∧ (a ≠ 105 ∨ (k ≠ 0 ∧ (k < 37 ∨ k = 43 ∨ k = 48))) ∧ (a < 133 ∨ a = 136 ∨ a = 138)) ∧ ¬ (a = 97 + 2 * n ∨ a = 98 + 2 * n ∨ ((a = 121 ∨ a = 122) ∧ k = n) ∨ (a = 123 ∧ 40 * n ≤ k ∧ k < 40 * n + 40))) → I' a k = I a k := fun hh => hs _ _ hh.2 (nSc hh.1)
  refine ⟨?_, fun q hq => ?_, fun q j hq hj => ?_, ?_, fun q hq => ?_, ?_, fun q hq => ?_, fun q hq => ?_, fun q j hq hj => ?_, ?_, ?_⟩
  · have g := h1
    unfold R_land at g ⊢
    rw [e (a := 1) (k := 1) (by omega), e (a := 105) (k := 2) (by omega)]
    exact g
  · have g := h2 q hq
    unfold R_house at g ⊢
    rw [e (a := 3 + 4 * q) (k := 0) (by omega), e (a := 3 + 4 * q) (k := 1) (by omega), e (a := 3 + 4 * q) (k := 2) (by omega), e (a := 3 + 4 * q) (k := 3) (by omega), e (a := 3 + 4 * q) (k := 4) (by omega), e (a := 3 + 4 * q) (k := 5) (by omega), e (a := 3 + 4 * q) (k := 6) (by omega), e (a := 3 + 4 * q) (k := 7) (by omega), e (a := 3 + 4 * q) (k := 8) (by omega), e (a := 3 + 4 * q) (k := 9) (by omega), e (a := 3 + 4 * q) (k := 10) (by omega), e (a := 3 + 4 * q) (k := 11) (by omega), e (a := 106) (k := q) (by omega), e (a := 107) (k := q) (by omega), e (a := 108) (k := q) (by omega), e (a := 109) (k := q) (by omega), e (a := 110) (k := q) (by omega), e (a := 111) (k := q) (by omega), e (a := 112) (k := q) (by omega), e (a := 113) (k := q) (by omega), e (a := 114) (k := q) (by omega), e (a := 117) (k := q) (by omega), e (a := 119) (k := q) (by omega), e (a := 120) (k := q) (by omega), e (a := 1) (k := 1) (by omega)]
    exact g
  · have g := h3 q j hq hj
    unfold R_pil at g ⊢
    rw [e (a := 3 + 4 * q + 1) (k := j) (by omega), e (a := 3 + 4 * q + 2) (k := j) (by omega), e (a := 3 + 4 * q + 3) (k := j) (by omega), e (a := 115) (k := 6 * q + j) (by omega), e (a := 116) (k := 6 * q + j) (by omega), e (a := 118) (k := 6 * q + j) (by omega), e (a := 114) (k := q) (by omega)]
    exact g
  · have g := h4
    unfold R_chain at g ⊢
    rw [e (a := 91) (k := 4) (by omega), e (a := 105) (k := 21) (by omega)]
    exact g
  · have g := h5 q hq
    unfold R_ch at g ⊢
    rw [e (a := 92) (k := q) (by omega), e (a := 93) (k := q) (by omega), e (a := 94) (k := q) (by omega), e (a := 95) (k := q) (by omega), e (a := 124) (k := q) (by omega), e (a := 125) (k := q) (by omega), e (a := 126) (k := q) (by omega), e (a := 127) (k := q) (by omega)]
    exact g
  · have g := h6
    unfold R_book at g ⊢
    rw [e (a := 35) (k := 2) (by omega), e (a := 105) (k := 26) (by omega)]
    exact g
  · have g := h7 q hq
    unfold R_rep at g ⊢
    rw [e (a := 43 + q) (k := 0) (by omega), e (a := 43 + q) (k := 1) (by omega), e (a := 43 + q) (k := 2) (by omega), e (a := 43 + q) (k := 3) (by omega), e (a := 43 + q) (k := 4) (by omega), e (a := 128) (k := q) (by omega), e (a := 129) (k := q) (by omega), e (a := 130) (k := q) (by omega), e (a := 131) (k := q) (by omega), e (a := 132) (k := q) (by omega), e (a := 35) (k := 2) (by omega)]
    exact g
  · by_cases hqn : q = n
    · subst hqn
      exact g_sheet
    · have g := h8 q hq
      unfold R_sheet at g ⊢
      rw [e (a := 97 + 2 * q) (k := 1) (by omega), e (a := 97 + 2 * q) (k := 2) (by omega), e (a := 97 + 2 * q) (k := 3) (by omega), e (a := 121) (k := q) (by omega), e (a := 122) (k := q) (by omega)]
      exact g
  · by_cases hqn : q = n
    · subst hqn
      exact g_cell j hj
    · have g := h9 q j hq hj
      unfold R_cell at g ⊢
      rw [e (a := 97 + 2 * q + 1) (k := j) (by omega), e (a := 123) (k := 40 * q + j) (by omega)]
      exact g
  · have g := h10
    rw [e (a := 0) (k := 7) (by omega), e (a := 105) (k := 1) (by omega)]
    exact g
  · unfold R_gs at h11 ⊢
    rw [e (a := 105) (k := 32) (by omega), e (a := 105) (k := 33) (by omega), e (a := 105) (k := 34) (by omega), e (a := 105) (k := 35) (by omega), e (a := 105) (k := 36) (by omega), e (a := 105) (k := 43) (by omega), e (a := 105) (k := 48) (by omega)]
    refine ⟨h11.1, h11.2.1, h11.2.2.1, fun q hq hl => ?_⟩
    rw [e (a := 136) (k := q) (by omega)]
    exact h11.2.2.2 q hq hl
theorem Inv.f_trace {I I' : Nat → Nat → Int32} (h : Inv I) (hs : ∀ a k, ¬ ((a = 0 ∧ k = 7) ∨ (a = 105 ∧ k = 1)) → ¬ Sc a k → I' a k = I a k) (g_trace : I' 0 7 = I' 105 1) : Inv I' := by
  obtain ⟨h1, h2, h3, h4, h5, h6, h7, h8, h9, h10, h11⟩ := h
  have e : ∀ {a k : Nat}, (((a ≠ 0 ∨ k ≠ 8) ∧ (a ≠ 35 ∨ k < 9) ∧ (a < 37 ∨ 42 < a) ∧ (a < 83 ∨ 90 < a) ∧ (a ≠ 105 ∨ (k ≠ 0 ∧ (k < 37 ∨ k = 43 ∨ k = 48))) ∧ (a < 133 ∨ a = 136 ∨ a = 138)) ∧ ¬ ((a = 0 ∧ k = 7) ∨ (a = 105 ∧ k = 1))) → I' a k = I a k := fun hh => hs _ _ hh.2 (nSc hh.1)
  refine ⟨?_, fun q hq => ?_, fun q j hq hj => ?_, ?_, fun q hq => ?_, ?_, fun q hq => ?_, fun q hq => ?_, fun q j hq hj => ?_, ?_, ?_⟩
  · have g := h1
    unfold R_land at g ⊢
    rw [e (a := 1) (k := 1) (by omega), e (a := 105) (k := 2) (by omega)]
    exact g
  · have g := h2 q hq
    unfold R_house at g ⊢
    rw [e (a := 3 + 4 * q) (k := 0) (by omega), e (a := 3 + 4 * q) (k := 1) (by omega), e (a := 3 + 4 * q) (k := 2) (by omega), e (a := 3 + 4 * q) (k := 3) (by omega), e (a := 3 + 4 * q) (k := 4) (by omega), e (a := 3 + 4 * q) (k := 5) (by omega), e (a := 3 + 4 * q) (k := 6) (by omega), e (a := 3 + 4 * q) (k := 7) (by omega), e (a := 3 + 4 * q) (k := 8) (by omega), e (a := 3 + 4 * q) (k := 9) (by omega), e (a := 3 + 4 * q) (k := 10) (by omega), e (a := 3 + 4 * q) (k := 11) (by omega), e (a := 106) (k := q) (by omega), e (a := 107) (k := q) (by omega), e (a := 108) (k := q) (by omega), e (a := 109) (k := q) (by omega), e (a := 110) (k := q) (by omega), e (a := 111) (k := q) (by omega), e (a := 112) (k := q) (by omega), e (a := 113) (k := q) (by omega), e (a := 114) (k := q) (by omega), e (a := 117) (k := q) (by omega), e (a := 119) (k := q) (by omega), e (a := 120) (k := q) (by omega), e (a := 1) (k := 1) (by omega)]
    exact g
  · have g := h3 q j hq hj
    unfold R_pil at g ⊢
    rw [e (a := 3 + 4 * q + 1) (k := j) (by omega), e (a := 3 + 4 * q + 2) (k := j) (by omega), e (a := 3 + 4 * q + 3) (k := j) (by omega), e (a := 115) (k := 6 * q + j) (by omega), e (a := 116) (k := 6 * q + j) (by omega), e (a := 118) (k := 6 * q + j) (by omega), e (a := 114) (k := q) (by omega)]
    exact g
  · have g := h4
    unfold R_chain at g ⊢
    rw [e (a := 91) (k := 4) (by omega), e (a := 105) (k := 21) (by omega)]
    exact g
  · have g := h5 q hq
    unfold R_ch at g ⊢
    rw [e (a := 92) (k := q) (by omega), e (a := 93) (k := q) (by omega), e (a := 94) (k := q) (by omega), e (a := 95) (k := q) (by omega), e (a := 124) (k := q) (by omega), e (a := 125) (k := q) (by omega), e (a := 126) (k := q) (by omega), e (a := 127) (k := q) (by omega)]
    exact g
  · have g := h6
    unfold R_book at g ⊢
    rw [e (a := 35) (k := 2) (by omega), e (a := 105) (k := 26) (by omega)]
    exact g
  · have g := h7 q hq
    unfold R_rep at g ⊢
    rw [e (a := 43 + q) (k := 0) (by omega), e (a := 43 + q) (k := 1) (by omega), e (a := 43 + q) (k := 2) (by omega), e (a := 43 + q) (k := 3) (by omega), e (a := 43 + q) (k := 4) (by omega), e (a := 128) (k := q) (by omega), e (a := 129) (k := q) (by omega), e (a := 130) (k := q) (by omega), e (a := 131) (k := q) (by omega), e (a := 132) (k := q) (by omega), e (a := 35) (k := 2) (by omega)]
    exact g
  · have g := h8 q hq
    unfold R_sheet at g ⊢
    rw [e (a := 97 + 2 * q) (k := 1) (by omega), e (a := 97 + 2 * q) (k := 2) (by omega), e (a := 97 + 2 * q) (k := 3) (by omega), e (a := 121) (k := q) (by omega), e (a := 122) (k := q) (by omega)]
    exact g
  · have g := h9 q j hq hj
    unfold R_cell at g ⊢
    rw [e (a := 97 + 2 * q + 1) (k := j) (by omega), e (a := 123) (k := 40 * q + j) (by omega)]
    exact g
  · exact g_trace
  · unfold R_gs at h11 ⊢
    rw [e (a := 105) (k := 32) (by omega), e (a := 105) (k := 33) (by omega), e (a := 105) (k := 34) (by omega), e (a := 105) (k := 35) (by omega), e (a := 105) (k := 36) (by omega), e (a := 105) (k := 43) (by omega), e (a := 105) (k := 48) (by omega)]
    refine ⟨h11.1, h11.2.1, h11.2.2.1, fun q hq hl => ?_⟩
    rw [e (a := 136) (k := q) (by omega)]
    exact h11.2.2.2 q hq hl
