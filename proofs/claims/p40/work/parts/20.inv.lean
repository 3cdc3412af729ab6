/-! GENERAL STATES: the relation between class and reference, scratch left out -/
def Sc (a k : Nat) : Prop := (a = 0 ∧ k = 8) ∨ (a = 35 ∧ 9 ≤ k) ∨ (37 ≤ a ∧ a ≤ 42) ∨ (83 ≤ a ∧ a ≤ 90) ∨ (a = 105 ∧ k = 0) ∨ (a = 105 ∧ 37 ≤ k ∧ k ≠ 43 ∧ k ≠ 48) ∨ (133 ≤ a ∧ a ≠ 136 ∧ a ≠ 138)
def sm (I I' : Nat → Nat → Int32) : Prop := ∀ a k, ¬ Sc a k → I' a k = I a k
theorem sm.rf {I : Nat → Nat → Int32} : sm I I := fun _ _ _ => rfl
theorem sm.tr {I I' I'' : Nat → Nat → Int32} (h : sm I I') (h' : sm I' I'') : sm I I'' := fun a k hk => (h' a k hk).trans (h a k hk)
theorem sm.up {I I' : Nat → Nat → Int32} {a k : Nat} {v : Int32} (h : sm I I') (hs : Sc a k) : sm I (am_up I' a k v) := by
  intro c j hc
  rw [← h c j hc]
  by_cases h1 : c = a
  · subst h1
    by_cases h2 : j = k
    · subst h2
      exact absurd hs hc
    · exact am_up_k h2
  · rw [am_up_ne h1]
theorem sm.fil {I I' : Nat → Nat → Int32} {a n : Nat} {v : Int32} (h : sm I I') (hs : ∀ k, Sc a k) : sm I (am_fil I' a n v) := by
  intro c j hc
  rw [← h c j hc]
  unfold am_fil
  rw [if_neg]
  rintro ⟨rfl, -⟩
  exact hc (hs j)
/-- a number between two -/
def gR (x : Int32) (lo hi : Int) : Prop := ∃ z : Int, lo ≤ z ∧ z ≤ hi ∧ x = Int32.ofInt z
def gB (x : Int32) : Prop := x = 0 ∨ x = 1
def R_land (I : Nat → Nat → Int32) : Prop := gR (I 1 1) 0 8 ∧ I 105 2 = I 1 1
def R_house (I : Nat → Nat → Int32) (h : Nat) : Prop := (I (3 + 4 * h) 0 = I 106 h ∧ I (3 + 4 * h) 1 = I 107 h ∧ I (3 + 4 * h) 2 = I 108 h ∧ I (3 + 4 * h) 3 = I 109 h ∧ I (3 + 4 * h) 4 = I 110 h ∧ I (3 + 4 * h) 5 = I 111 h ∧ I (3 + 4 * h) 6 = I 112 h)
  ∧ (I (3 + 4 * h) 7 = 1 - I 113 h ∧ I (3 + 4 * h) 9 = I 119 h ∧ I (3 + 4 * h) 10 = I 120 h ∧ I (3 + 4 * h) 11 = I 114 h)
  ∧ (gR (I 106 h) 0 2 ∧ gR (I 107 h) 0 11 ∧ gR (I 108 h) 0 11 ∧ gR (I 109 h) 0 240 ∧ gR (I 110 h) 0 240 ∧ gR (I 111 h) (-50) 50 ∧ gR (I 112 h) 0 20 ∧ gB (I 113 h) ∧ gB (I 119 h) ∧ gR (I 114 h) 0 6)
  ∧ ((Int32.ofInt h < I 1 1 → I (3 + 4 * h) 8 = I 117 h) ∧ (¬ Int32.ofInt h < I 1 1 → I (3 + 4 * h) 8 = -9 ∧ I 111 h = 0 ∧ I 112 h = 0 ∧ I 113 h = 0 ∧ I 114 h = 0 ∧ I 119 h = 0) ∧ gR (I (3 + 4 * h) 8) (-9) 7)
def R_pil (I : Nat → Nat → Int32) (h j : Nat) : Prop := I (3 + 4 * h + 1) j = I 115 (6 * h + j) ∧ I (3 + 4 * h + 2) j = I 116 (6 * h + j) ∧ (Int32.ofInt j < I 114 h → I (3 + 4 * h + 3) j = I 118 (6 * h + j)) ∧ gR (I 115 (6 * h + j)) 0 240 ∧ gR (I 116 (6 * h + j)) (-1) 7 ∧ gR (I (3 + 4 * h + 3) j) (-9) 8
def R_chain (I : Nat → Nat → Int32) : Prop := gR (I 91 4) 0 12 ∧ I 105 21 = I 91 4
def R_ch (I : Nat → Nat → Int32) (k : Nat) : Prop := I 92 k = I 124 k ∧ I 93 k = I 125 k ∧ I 94 k = I 126 k ∧ I 95 k = I 127 k ∧ gR (I 124 k) 0 11 ∧ gR (I 125 k) 0 11 ∧ gR (I 126 k) 0 12 ∧ gR (I 127 k) 0 1000000
def R_book (I : Nat → Nat → Int32) : Prop := gR (I 35 2) 0 40 ∧ I 105 26 = I 35 2
def R_rep (I : Nat → Nat → Int32) (r : Nat) : Prop := (I (43 + r) 0 = I 128 r ∧ I (43 + r) 1 = I 129 r ∧ I (43 + r) 2 = I 130 r ∧ I (43 + r) 3 = I 131 r) ∧ (Int32.ofInt r < I 35 2 → I (43 + r) 4 = 1 - I 132 r) ∧ gB (I 132 r) ∧ gB (I (43 + r) 4) ∧ gR (I 128 r) 0 4 ∧ gR (I 129 r) 0 7 ∧ gR (I 130 r) (-9) 5 ∧ (I 128 r = 1 → gR (I 130 r) 0 5)
def R_sheet (I : Nat → Nat → Int32) (k : Nat) : Prop := (I (97 + 2 * k) 1 = 0 ∧ I 121 k = -9) ∨ (I (97 + 2 * k) 1 = 1 ∧ I 121 k = I (97 + 2 * k) 2 ∧ gR (I 121 k) 0 2 ∧ I 122 k = I (97 + 2 * k) 3 ∧ gR (I 122 k) 0 40)
def R_cell (I : Nat → Nat → Int32) (k q : Nat) : Prop := I (97 + 2 * k + 1) q = I 123 (40 * k + q)
/-- what the reference's own scratch keeps to -/
def R_gs (I : Nat → Nat → Int32) : Prop := (gR (I 105 32) 0 11 ∧ gR (I 105 33) 0 11 ∧ gR (I 105 34) 0 3 ∧ gR (I 105 35) 0 12 ∧ gB (I 105 36)) ∧ gR (I 105 43) 0 13824 ∧ gR (I 105 48) 0 13823 ∧ ∀ q : Nat, q < 13824 → Int32.ofInt (q : Int) < I 105 43 → gR (I 136 q) 0 13823
def Inv (I : Nat → Nat → Int32) : Prop := R_land I ∧ (∀ h, h < 8 → R_house I h) ∧ (∀ h j, h < 8 → j < 6 → R_pil I h j) ∧ R_chain I ∧ (∀ k, k < 12 → R_ch I k) ∧ R_book I ∧ (∀ r, r < 40 → R_rep I r) ∧ (∀ k, k < 4 → R_sheet I k) ∧ (∀ k q, k < 4 → q < 40 → R_cell I k q) ∧ I 0 7 = I 105 1 ∧ R_gs I
theorem nSc {a k : Nat} (h : (a ≠ 0 ∨ k ≠ 8) ∧ (a ≠ 35 ∨ k < 9) ∧ (a < 37 ∨ 42 < a) ∧ (a < 83 ∨ 90 < a) ∧ (a ≠ 105 ∨ (k ≠ 0 ∧ (k < 37 ∨ k = 43 ∨ k = 48))) ∧ (a < 133 ∨ a = 136 ∨ a = 138)) : ¬ Sc a k := by
  unfold Sc
  omega
theorem Inv.sm {I I' : Nat → Nat → Int32} (hI : Inv I) (h : sm I I') : Inv I' := by
  obtain ⟨h1, h2, h3, h4, h5, h6, h7, h8, h9, h10, h11⟩ := hI
  have e : ∀ {a k : Nat}, ((a ≠ 0 ∨ k ≠ 8) ∧ (a ≠ 35 ∨ k < 9) ∧ (a < 37 ∨ 42 < a) ∧ (a < 83 ∨ 90 < a) ∧ (a ≠ 105 ∨ (k ≠ 0 ∧ (k < 37 ∨ k = 43 ∨ k = 48))) ∧ (a < 133 ∨ a = 136 ∨ a = 138)) → I' a k = I a k := fun hh => h _ _ (nSc hh)
  refine ⟨?_, fun q hq => ?_, fun q j hq hj => ?_, ?_, fun q hq => ?_, ?_, fun q hq => ?_, fun q hq => ?_, fun q j hq hj => ?_, ?_, ?_⟩
  · unfold R_land at h1 ⊢
    rw [e (a := 1) (k := 1) (by omega), e (a := 105) (k := 2) (by omega)]
    exact h1
  · have g := h2 q hq
    unfold R_house at g ⊢
    rw [e (a := 3 + 4 * q) (k := 0) (by omega), e (a := 3 + 4 * q) (k := 1) (by omega), e (a := 3 + 4 * q) (k := 2) (by omega), e (a := 3 + 4 * q) (k := 3) (by omega), e (a := 3 + 4 * q) (k := 4) (by omega), e (a := 3 + 4 * q) (k := 5) (by omega), e (a := 3 + 4 * q) (k := 6) (by omega), e (a := 3 + 4 * q) (k := 7) (by omega), e (a := 3 + 4 * q) (k := 8) (by omega), e (a := 3 + 4 * q) (k := 9) (by omega), e (a := 3 + 4 * q) (k := 10) (by omega), e (a := 3 + 4 * q) (k := 11) (by omega), e (a := 106) (k := q) (by omega), e (a := 107) (k := q) (by omega), e (a := 108) (k := q) (by omega), e (a := 109) (k := q) (by omega), e (a := 110) (k := q) (by omega), e (a := 111) (k := q) (by omega), e (a := 112) (k := q) (by omega), e (a := 113) (k := q) (by omega), e (a := 114) (k := q) (by omega), e (a := 117) (k := q) (by omega), e (a := 119) (k := q) (by omega), e (a := 120) (k := q) (by omega), e (a := 1) (k := 1) (by omega)]
    exact g
  · have g := h3 q j hq hj
    unfold R_pil at g ⊢
    rw [e (a := 3 + 4 * q + 1) (k := j) (by omega), e (a := 3 + 4 * q + 2) (k := j) (by omega), e (a := 3 + 4 * q + 3) (k := j) (by omega), e (a := 115) (k := 6 * q + j) (by omega), e (a := 116) (k := 6 * q + j) (by omega), e (a := 118) (k := 6 * q + j) (by omega), e (a := 114) (k := q) (by omega)]
    exact g
  · unfold R_chain at h4 ⊢
    rw [e (a := 91) (k := 4) (by omega), e (a := 105) (k := 21) (by omega)]
    exact h4
  · have g := h5 q hq
    unfold R_ch at g ⊢
    rw [e (a := 92) (k := q) (by omega), e (a := 93) (k := q) (by omega), e (a := 94) (k := q) (by omega), e (a := 95) (k := q) (by omega), e (a := 124) (k := q) (by omega), e (a := 125) (k := q) (by omega), e (a := 126) (k := q) (by omega), e (a := 127) (k := q) (by omega)]
    exact g
  · unfold R_book at h6 ⊢
    rw [e (a := 35) (k := 2) (by omega), e (a := 105) (k := 26) (by omega)]
    exact h6
  · have g := h7 q hq
    unfold R_rep at g ⊢
    rw [e (a := 43 + q) (k := 0) (by omega), e (a := 43 + q) (k := 1) (by omega), e (a := 43 + q) (k := 2) (by omega), e (a := 43 + q) (k := 3) (by omega), e (a := 43 + q) (k := 4) (by omega), e (a := 128) (k := q) (by omega), e (a := 129) (k := q) (by omega), e (a := 130) (k := q) (by omega), e (a := 131) (k := q) (by omega), e (a := 132) (k := q) (by omega), e (a := 35) (k := 2) (by omega)]
    exact g
  · have g := h8 q hq
    unfold R_sheet at g ⊢
    rw [e (a := 97 + 2 * q) (k := 1) (by omega), e (a := 97 + 2 * q) (k := 2) (by omega), e (a := 97 + 2 * q) (k := 3) (by omega), e (a := 121) (k := q) (by omega), e (a := 122) (k := q) (by omega)]
    exact g
  · have g := h9 q j hq hj
    unfold R_cell at g ⊢
    rw [e (a := 97 + 2 * q + 1) (k := j) (by omega), e (a := 123) (k := 40 * q + j) (by omega)]
    exact g
  · rw [e (a := 0) (k := 7) (by omega), e (a := 105) (k := 1) (by omega)]
    exact h10
  · unfold R_gs at h11 ⊢
    rw [e (a := 105) (k := 32) (by omega), e (a := 105) (k := 33) (by omega), e (a := 105) (k := 34) (by omega), e (a := 105) (k := 35) (by omega), e (a := 105) (k := 36) (by omega), e (a := 105) (k := 43) (by omega), e (a := 105) (k := 48) (by omega)]
    refine ⟨h11.1, h11.2.1, h11.2.2.1, fun q hq hl => ?_⟩
    rw [e (a := 136) (k := q) (by omega)]
    exact h11.2.2.2 q hq hl
theorem gR.ix {x : Int32} {hi : Int} {n : Nat} (h : gR x 0 hi) (hn : hi < n) (hm : hi < 2147483648) : am_ix x n := by
  obtain ⟨z, h1, h2, rfl⟩ := h
  exact oi_ix h1 (by omega) (by omega)
theorem gR.le {x : Int32} {lo hi : Int} (h : gR x lo hi) (hl : -2147483648 ≤ lo) (hm : hi < 2147483648) : x ≤ Int32.ofInt hi := by
  obtain ⟨z, h1, h2, rfl⟩ := h
  rw [oi_le (by omega) (by omega)]
  exact h2
theorem Inv.le8 {I : Nat → Nat → Int32} (h : Inv I) : I 1 1 ≤ Int32.ofInt ((8 : Nat) : Int) := h.1.1.le (by omega) (by omega)
theorem Inv.mle8 {I : Nat → Nat → Int32} (h : Inv I) : I 105 2 ≤ Int32.ofInt ((8 : Nat) : Int) := by rw [h.1.2]; exact h.le8
theorem Inv.le12 {I : Nat → Nat → Int32} (h : Inv I) : I 91 4 ≤ Int32.ofInt ((12 : Nat) : Int) := h.2.2.2.1.1.le (by omega) (by omega)
theorem Inv.mle12 {I : Nat → Nat → Int32} (h : Inv I) : I 105 21 ≤ Int32.ofInt ((12 : Nat) : Int) := by rw [h.2.2.2.1.2]; exact h.le12
theorem Inv.le40 {I : Nat → Nat → Int32} (h : Inv I) : I 35 2 ≤ Int32.ofInt ((40 : Nat) : Int) := h.2.2.2.2.2.1.1.le (by omega) (by omega)
theorem Inv.mle40 {I : Nat → Nat → Int32} (h : Inv I) : I 105 26 ≤ Int32.ofInt ((40 : Nat) : Int) := by rw [h.2.2.2.2.2.1.2]; exact h.le40
theorem Inv.ixRH {I : Nat → Nat → Int32} (h : Inv I) {r : Nat} (hr : r < 40) : am_ix (I (43 + r) 1) 8 := by
  have g := h.2.2.2.2.2.2.1 r hr
  rw [g.1.2.1]
  exact g.2.2.2.2.2.1.ix (by omega) (by omega)
theorem Inv.leP {I : Nat → Nat → Int32} (h : Inv I) {a : Nat} (ha : am_isH a) : I a 11 ≤ Int32.ofInt ((6 : Nat) : Int) := by
  obtain ⟨q, hq, rfl⟩ := ha
  have g := h.2.1 q hq
  rw [g.2.1.2.2.2]
  exact g.2.2.1.2.2.2.2.2.2.2.2.2.le (by omega) (by omega)
theorem Inv.ixP {I : Nat → Nat → Int32} (h : Inv I) {a : Nat} (ha : am_isH a) {x : Int32} (hp : ¬ v_hasPillar I a x = 0) : am_ix x 6 := by
  have hl := h.leP ha
  unfold v_hasPillar at hp
  by_cases h1 : x < 0
  · rw [if_pos h1] at hp
    exact absurd rfl hp
  · rw [if_neg h1] at hp
    by_cases h2 : I a 11 ≤ x
    · rw [if_pos h2] at hp
      exact absurd rfl hp
    · refine am_ix_of rfl (by decide) h1 (fun h3 => h2 (Int32.le_trans hl h3))
