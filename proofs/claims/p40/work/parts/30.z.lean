theorem Inv.ch2 {I I' : Nat → Nat → Int32} (h : Inv I) (hs : ∀ a k, ¬ (a = 105 ∧ 32 ≤ k) → (a ≠ 136 ∧ a ≠ 138) → I' a k = I a k) (hg : R_gs I') : Inv I' := by
  obtain ⟨h1, h2, h3, h4, h5, h6, h7, h8, h9, h10, -⟩ := h
  refine ⟨?_, fun q hq => ?_, fun q j hq hj => ?_, ?_, fun q hq => ?_, ?_, fun q hq => ?_, fun q hq => ?_, fun q j hq hj => ?_, ?_, hg⟩
  · unfold R_land at h1 ⊢
    rw [hs 1 1 (by omega) (by omega), hs 105 2 (by omega) (by omega)]
    exact h1
  · have g := h2 q hq
    unfold R_house at g ⊢
    rw [hs (3 + 4 * q) 0 (by omega) (by omega), hs (3 + 4 * q) 1 (by omega) (by omega), hs (3 + 4 * q) 2 (by omega) (by omega), hs (3 + 4 * q) 3 (by omega) (by omega), hs (3 + 4 * q) 4 (by omega) (by omega), hs (3 + 4 * q) 5 (by omega) (by omega), hs (3 + 4 * q) 6 (by omega) (by omega), hs (3 + 4 * q) 7 (by omega) (by omega), hs (3 + 4 * q) 8 (by omega) (by omega), hs (3 + 4 * q) 9 (by omega) (by omega), hs (3 + 4 * q) 10 (by omega) (by omega), hs (3 + 4 * q) 11 (by omega) (by omega), hs 106 q (by omega) (by omega), hs 107 q (by omega) (by omega), hs 108 q (by omega) (by omega), hs 109 q (by omega) (by omega), hs 110 q (by omega) (by omega), hs 111 q (by omega) (by omega), hs 112 q (by omega) (by omega), hs 113 q (by omega) (by omega), hs 114 q (by omega) (by omega), hs 117 q (by omega) (by omega), hs 119 q (by omega) (by omega), hs 120 q (by omega) (by omega), hs 1 1 (by omega) (by omega)]
    exact g
  · have g := h3 q j hq hj
    unfold R_pil at g ⊢
    rw [hs (3 + 4 * q + 1) j (by omega) (by omega), hs (3 + 4 * q + 2) j (by omega) (by omega), hs (3 + 4 * q + 3) j (by omega) (by omega), hs 115 (6 * q + j) (by omega) (by omega), hs 116 (6 * q + j) (by omega) (by omega), hs 118 (6 * q + j) (by omega) (by omega), hs 114 q (by omega) (by omega)]
    exact g
  · unfold R_chain at h4 ⊢
    rw [hs 91 4 (by omega) (by omega), hs 105 21 (by omega) (by omega)]
    exact h4
  · have g := h5 q hq
    unfold R_ch at g ⊢
    rw [hs 92 q (by omega) (by omega), hs 93 q (by omega) (by omega), hs 94 q (by omega) (by omega), hs 95 q (by omega) (by omega), hs 124 q (by omega) (by omega), hs 125 q (by omega) (by omega), hs 126 q (by omega) (by omega), hs 127 q (by omega) (by omega)]
    exact g
  · unfold R_book at h6 ⊢
    rw [hs 35 2 (by omega) (by omega), hs 105 26 (by omega) (by omega)]
    exact h6
  · have g := h7 q hq
    unfold R_rep at g ⊢
    rw [hs (43 + q) 0 (by omega) (by omega), hs (43 + q) 1 (by omega) (by omega), hs (43 + q) 2 (by omega) (by omega), hs (43 + q) 3 (by omega) (by omega), hs (43 + q) 4 (by omega) (by omega), hs 128 q (by omega) (by omega), hs 129 q (by omega) (by omega), hs 130 q (by omega) (by omega), hs 131 q (by omega) (by omega), hs 132 q (by omega) (by omega), hs 35 2 (by omega) (by omega)]
    exact g
  · have g := h8 q hq
    unfold R_sheet at g ⊢
    rw [hs (97 + 2 * q) 1 (by omega) (by omega), hs (97 + 2 * q) 2 (by omega) (by omega), hs (97 + 2 * q) 3 (by omega) (by omega), hs 121 q (by omega) (by omega), hs 122 q (by omega) (by omega)]
    exact g
  · have g := h9 q j hq hj
    unfold R_cell at g ⊢
    rw [hs (97 + 2 * q + 1) j (by omega) (by omega), hs 123 (40 * q + j) (by omega) (by omega)]
    exact g
  · rw [hs 0 7 (by omega) (by omega), hs 105 1 (by omega) (by omega)]
    exact h10
theorem s214_0 {X : am_X} {d : Nat} {ls : List Value} {σ : am_M} {st : List Value} {Q : Option Value → am_M → Prop} (k : am_wp X d 214 2 ls (.int (-11) :: st) σ Q) : am_wp X d 214 0 ls st σ Q := Eq.mpr (r_bp (z := (-11)) (v := (-11)) (by decide +kernel) (by decide +kernel)) k
theorem s214_2 {X : am_X} {d : Nat} {v0 v1 v2 : Value} {x : Int32} {σ : am_M} {st : List Value} {Q : Option Value → am_M → Prop} (h : v0.category = 1) (k : am_wp X d 214 3 [v0, .int x, v2] st σ Q) : am_wp X d 214 2 [v0, v1, v2] (.int x :: st) σ Q := g_isn (i := 1) (by decide +kernel) (Nat.le_of_ble_eq_true rfl) (Or.inr h) rfl k
theorem s214_3 {X : am_X} {d : Nat} {v0 v2 : Value} {x : Int32} {σ : am_M} {st : List Value} {Q : Option Value → am_M → Prop} (k : am_wp X d 214 4 [v0, .int x, v2] (.int x :: st) σ Q) : am_wp X d 214 3 [v0, .int x, v2] st σ Q := g_iln (i := 1) (by decide +kernel) rfl k
theorem s214_4 {X : am_X} {d : Nat} {ls : List Value} {σ : am_M} {st : List Value} {Q : Option Value → am_M → Prop} (k : am_wp X d 214 6 ls (.int 12 :: st) σ Q) : am_wp X d 214 4 ls st σ Q := Eq.mpr (r_bp (z := 12) (v := 12) (by decide +kernel) (by decide +kernel)) k
theorem s214_6 {X : am_X} {d : Nat} {ls : List Value} {x y : Int32} {σ : am_M} {st : List Value} {Q : Option Value → am_M → Prop} (kt : y ≤ x → am_wp X d 214 53 ls st σ Q) (kf : ¬ y ≤ x → am_wp X d 214 9 ls st σ Q) : am_wp X d 214 6 ls (.int y :: .int x :: st) σ Q := Eq.mpr (r_cge (off := 47) (t := 53) (by decide +kernel) (by decide)) (am_spl kt kf)
theorem s214_9 {X : am_X} {d : Nat} {ls : List Value} {σ : am_M} {st : List Value} {Q : Option Value → am_M → Prop} (k : am_wp X d 214 11 ls (.int (-11) :: st) σ Q) : am_wp X d 214 9 ls st σ Q := Eq.mpr (r_bp (z := (-11)) (v := (-11)) (by decide +kernel) (by decide +kernel)) k
theorem s214_11 {X : am_X} {d : Nat} {v0 v1 v2 : Value} {x : Int32} {σ : am_M} {st : List Value} {Q : Option Value → am_M → Prop} (h : v1.category = 1) (k : am_wp X d 214 12 [v0, v1, .int x] st σ Q) : am_wp X d 214 11 [v0, v1, v2] (.int x :: st) σ Q := g_isn (i := 2) (by decide +kernel) (Nat.le_of_ble_eq_true rfl) (Or.inr h) rfl k
theorem s214_12 {X : am_X} {d : Nat} {v0 v1 : Value} {x : Int32} {σ : am_M} {st : List Value} {Q : Option Value → am_M → Prop} (k : am_wp X d 214 13 [v0, v1, .int x] (.int x :: st) σ Q) : am_wp X d 214 12 [v0, v1, .int x] st σ Q := g_iln (i := 2) (by decide +kernel) rfl k
theorem s214_13 {X : am_X} {d : Nat} {ls : List Value} {σ : am_M} {st : List Value} {Q : Option Value → am_M → Prop} (k : am_wp X d 214 15 ls (.int 12 :: st) σ Q) : am_wp X d 214 13 ls st σ Q := Eq.mpr (r_bp (z := 12) (v := 12) (by decide +kernel) (by decide +kernel)) k
theorem s214_15 {X : am_X} {d : Nat} {ls : List Value} {x y : Int32} {σ : am_M} {st : List Value} {Q : Option Value → am_M → Prop} (kt : y ≤ x → am_wp X d 214 47 ls st σ Q) (kf : ¬ y ≤ x → am_wp X d 214 18 ls st σ Q) : am_wp X d 214 15 ls (.int y :: .int x :: st) σ Q := Eq.mpr (r_cge (off := 32) (t := 47) (by decide +kernel) (by decide)) (am_spl kt kf)
theorem s214_18 {X : am_X} {d : Nat} {v1 v2 : Value} {x : Nat} {σ : am_M} {st : List Value} {Q : Option Value → am_M → Prop} (k : am_wp X d 214 19 [.ref x, v1, v2] (.ref x :: st) σ Q) : am_wp X d 214 18 [.ref x, v1, v2] st σ Q := g_aln (i := 0) (by decide +kernel) rfl k
theorem s214_18n {X : am_X} {d : Nat} {v1 v2 : Value} {σ : am_M} {st : List Value} {Q : Option Value → am_M → Prop} (k : am_wp X d 214 19 [.null, v1, v2] (.null :: st) σ Q) : am_wp X d 214 18 [.null, v1, v2] st σ Q := g_aln0 (i := 0) (by decide +kernel) rfl k
theorem s214_19 {X : am_X} {d : Nat} {ls : List Value} {a b : Nat} {I : Nat → Nat → Int32} {J : Nat → Nat → Int64} {st : List Value} {Q : Option Value → am_M → Prop} (h : am_K0[a]? = some (10, 58)) (hp : am_pg am_P0 a 55 = some b) (k : am_wp X d 214 22 ls (.ref b :: st) (am_N I J) Q) : am_wp X d 214 19 ls (.ref a :: st) (am_N I J) Q := Eq.mpr (r_get (k := 107) (ci := 10) (f := 55) (p := 1108) (v := .ref b) (by decide +kernel) (by decide +kernel) (am_far hp (by decide +kernel)) h) k
theorem s214_22 {X : am_X} {d : Nat} {ls : List Value} {σ : am_M} {st : List Value} {Q : Option Value → am_M → Prop} (k : am_wp X d 214 24 ls (.int 23 :: st) σ Q) : am_wp X d 214 22 ls st σ Q := Eq.mpr (r_bp (z := 23) (v := 23) (by decide +kernel) (by decide +kernel)) k
theorem s214_24 {X : am_X} {d : Nat} {v0 v2 : Value} {x : Int32} {σ : am_M} {st : List Value} {Q : Option Value → am_M → Prop} (k : am_wp X d 214 25 [v0, .int x, v2] (.int x :: st) σ Q) : am_wp X d 214 24 [v0, .int x, v2] st σ Q := g_iln (i := 1) (by decide +kernel) rfl k
theorem s214_25 {X : am_X} {d : Nat} {ls : List Value} {σ : am_M} {st : List Value} {Q : Option Value → am_M → Prop} (k : am_wp X d 214 27 ls (.int 11 :: st) σ Q) : am_wp X d 214 25 ls st σ Q := Eq.mpr (r_bp (z := 11) (v := 11) (by decide +kernel) (by decide +kernel)) k
theorem s214_27 {X : am_X} {d : Nat} {ls : List Value} {x y : Int32} {σ : am_M} {st : List Value} {Q : Option Value → am_M → Prop} (k : am_wp X d 214 28 ls (.int (x + y) :: st) σ Q) : am_wp X d 214 27 ls (.int y :: .int x :: st) σ Q := g_iadd (by decide +kernel) k
theorem s214_28 {X : am_X} {d : Nat} {ls : List Value} {x y : Int32} {σ : am_M} {st : List Value} {Q : Option Value → am_M → Prop} (k : am_wp X d 214 29 ls (.int (x * y) :: st) σ Q) : am_wp X d 214 28 ls (.int y :: .int x :: st) σ Q := g_imul (by decide +kernel) k
theorem s214_29 {X : am_X} {d : Nat} {v0 v1 : Value} {x : Int32} {σ : am_M} {st : List Value} {Q : Option Value → am_M → Prop} (k : am_wp X d 214 30 [v0, v1, .int x] (.int x :: st) σ Q) : am_wp X d 214 29 [v0, v1, .int x] st σ Q := g_iln (i := 2) (by decide +kernel) rfl k
theorem s214_30 {X : am_X} {d : Nat} {ls : List Value} {x y : Int32} {σ : am_M} {st : List Value} {Q : Option Value → am_M → Prop} (k : am_wp X d 214 31 ls (.int (x + y) :: st) σ Q) : am_wp X d 214 30 ls (.int y :: .int x :: st) σ Q := g_iadd (by decide +kernel) k
theorem s214_31 {X : am_X} {d : Nat} {ls : List Value} {σ : am_M} {st : List Value} {Q : Option Value → am_M → Prop} (k : am_wp X d 214 33 ls (.int 11 :: st) σ Q) : am_wp X d 214 31 ls st σ Q := Eq.mpr (r_bp (z := 11) (v := 11) (by decide +kernel) (by decide +kernel)) k
theorem s214_33 {X : am_X} {d : Nat} {ls : List Value} {x y : Int32} {σ : am_M} {st : List Value} {Q : Option Value → am_M → Prop} (k : am_wp X d 214 34 ls (.int (x + y) :: st) σ Q) : am_wp X d 214 33 ls (.int y :: .int x :: st) σ Q := g_iadd (by decide +kernel) k
theorem s214_34 {X : am_X} {d : Nat} {v0 v2 : Value} {x : Int32} {σ : am_M} {st : List Value} {Q : Option Value → am_M → Prop} (k : am_wp X d 214 35 [v0, .int x, v2] (.int x :: st) σ Q) : am_wp X d 214 34 [v0, .int x, v2] st σ Q := g_iln (i := 1) (by decide +kernel) rfl k
theorem s214_35 {X : am_X} {d : Nat} {v0 v1 : Value} {x : Int32} {σ : am_M} {st : List Value} {Q : Option Value → am_M → Prop} (k : am_wp X d 214 36 [v0, v1, .int x] (.int x :: st) σ Q) : am_wp X d 214 35 [v0, v1, .int x] st σ Q := g_iln (i := 2) (by decide +kernel) rfl k
theorem s214_36 {X : am_X} {d : Nat} {ls : List Value} {σ : am_M} {st : List Value} {Q : Option Value → am_M → Prop} (k : am_wp X d 214 37 ls (.int 0 :: st) σ Q) : am_wp X d 214 36 ls st σ Q := Eq.mpr (r_ic (z := 0) (v := 0) (by decide +kernel) (by decide +kernel)) k
theorem s214_37 {X : am_X} {d : Nat} {ls : List Value} {y0 : Int32} {y1 : Int32} {y2 : Int32} {σ : am_M} {st : List Value} {Q : Option Value → am_M → Prop} (hr : (st.map fun v => v.category).sum ≤ 8) (k : am_wp X d 165 0 [.int y0, .int y1, .int y2, am_uv, am_uv] [] σ (fun v σ' => am_wp X (d + 1) 214 40 ls (v.toList ++ st) σ' Q)) : am_wp X (d + 1) 214 37 ls (.int y2 :: .int y1 :: .int y0 :: st) σ Q := g_cs (k := 179) (kd := 0) (m := 165) (n := 3) (mx := 5) (as := [.int y0, .int y1, .int y2]) (r := st) (en := [.int y0, .int y1, .int y2, am_uv, am_uv]) (by decide +kernel) (by decide +kernel) (by decide) (by decide +kernel) rfl (Nat.le_of_ble_eq_true rfl) rfl rfl hr k
theorem s214_40 {X : am_X} {d : Nat} {ls : List Value} {a n : Nat} {x v : Int32} {I : Nat → Nat → Int32} {J : Nat → Nat → Int64} {st : List Value} {Q : Option Value → am_M → Prop} (h : am_K0[a]? = some (50, n)) (hx : am_ix x n) (k : am_wp X d 214 41 ls st (am_N (am_up I a x.toNatClampNeg v) J) Q) : am_wp X d 214 40 ls (.int v :: .int x :: .ref a :: st) (am_N I J) Q := Eq.mpr (r_ias (by decide +kernel) h hx) k
theorem s214_41 {X : am_X} {d : Nat} {v0 v1 : Value} {x : Int32} {σ : am_M} {st : List Value} {Q : Option Value → am_M → Prop} (h : v1.category = 1) (k : am_wp X d 214 44 [v0, v1, .int (x + 1)] st σ Q) : am_wp X d 214 41 [v0, v1, .int x] st σ Q := g_inc (i := 2) (z := 1) (x := x) (v := 1) (by decide +kernel) rfl (Nat.le_of_ble_eq_true rfl) (Or.inr h) (by decide +kernel) rfl k
theorem s214_44 {X : am_X} {d : Nat} {ls : List Value} {σ : am_M} {st : List Value} {Q : Option Value → am_M → Prop} (k : am_wp X d 214 12 ls st σ Q) : am_wp X d 214 44 ls st σ Q := Eq.mpr (r_go (off := (-32)) (t := 12) (by decide +kernel) (by decide)) k
theorem s214_47 {X : am_X} {d : Nat} {v0 v2 : Value} {x : Int32} {σ : am_M} {st : List Value} {Q : Option Value → am_M → Prop} (h : v0.category = 1) (k : am_wp X d 214 50 [v0, .int (x + 1), v2] st σ Q) : am_wp X d 214 47 [v0, .int x, v2] st σ Q := g_inc (i := 1) (z := 1) (x := x) (v := 1) (by decide +kernel) rfl (Nat.le_of_ble_eq_true rfl) (Or.inr h) (by decide +kernel) rfl k
theorem s214_50 {X : am_X} {d : Nat} {ls : List Value} {σ : am_M} {st : List Value} {Q : Option Value → am_M → Prop} (k : am_wp X d 214 3 ls st σ Q) : am_wp X d 214 50 ls st σ Q := Eq.mpr (r_go (off := (-47)) (t := 3) (by decide +kernel) (by decide)) k
theorem s214_53 {X : am_X} {d : Nat} {ls : List Value} {σ : am_M} {Q : Option Value → am_M → Prop} (k : Q none σ) : am_wp X d 214 53 ls [] σ Q := Eq.mpr (r_vret (by decide +kernel) (by decide +kernel)) k
theorem c_214 {X : am_X} {d : Nat} {I : Nat → Nat → Int32} {J : Nat → Nat → Int64} {Q : Option Value → am_M → Prop} (k : am_wp X (d + 2) 214 3 [.ref 105, .int (-11), am_uv] [] (am_N I J) Q) : am_wp X (d + 2) 214 0 [.ref 105, am_uv, am_uv] [] (am_N I J) Q := s214_0 (s214_2 rfl (k))
theorem c_214_3 {X : am_X} {d : Nat} {I : Nat → Nat → Int32} {J : Nat → Nat → Int64} {Q : Option Value → am_M → Prop} {x1 : Int32} {u2 : Value} (hu2 : u2.category = 1) (k : ((12 ≤ x1 → Q none (am_N I J)) ∧ (¬ 12 ≤ x1 → am_wp X (d + 2) 214 12 [.ref 105, .int x1, .int (-11)] [] (am_N I J) Q))) : am_wp X (d + 2) 214 3 [.ref 105, .int x1, u2] [] (am_N I J) Q := s214_3 (s214_4 (s214_6 (fun h1340 => have k := k.1 h1340; s214_53 (k)) (fun h1340 => have k := k.2 h1340; s214_9 (s214_11 rfl (k)))))
theorem c_214_12 {X : am_X} {d : Nat} {I : Nat → Nat → Int32} {J : Nat → Nat → Int64} {Q : Option Value → am_M → Prop} {x1 x2 : Int32} (k : ((12 ≤ x2 → am_wp X (d + 2) 214 3 [.ref 105, .int (x1 + 1), .int x2] [] (am_N I J) Q) ∧ (¬ 12 ≤ x2 → (am_ix (((23 * (x1 + 11)) + x2) + 11) 529 ∧ am_wp X (d + 2) 214 12 [.ref 105, .int x1, .int (x2 + 1)] [] (am_N (am_up I 138 (Int32.toNatClampNeg (((23 * (x1 + 11)) + x2) + 11)) (v_m_wayOf x1 x2 0)) J) Q)))) : am_wp X (d + 2) 214 12 [.ref 105, .int x1, .int x2] [] (am_N I J) Q := s214_12 (s214_13 (s214_15 (fun h1341 => have k := k.1 h1341; s214_47 rfl (s214_50 (k))) (fun h1341 => have k := k.2 h1341; s214_18 (s214_19 k0_105 p0_105_55 (s214_22 (s214_24 (s214_25 (s214_27 (s214_28 (s214_29 (s214_30 (s214_31 (s214_33 (s214_34 (s214_35 (s214_36 (s214_37 (Nat.le_of_ble_eq_true rfl) (w_m_wayOf (am_aft (have b1342 := k.1; have k := k.2; s214_40 k0_138 b1342 (s214_41 rfl (s214_44 (k)))))))))))))))))))))))
theorem Inv.w138 {I : Nat → Nat → Int32} {q : Nat} {v : Int32} (h : Inv I) : Inv (am_up I 138 q v) := by
  have e1 : ∀ j, am_up I 138 q v 105 j = I 105 j := fun j => congrFun (am_up_ne (by decide)) j
  have e2 : ∀ j, am_up I 138 q v 136 j = I 136 j := fun j => congrFun (am_up_ne (by decide)) j
  refine h.ch2 (fun a k _ hn => congrFun (am_up_ne hn.2) k) ?_
  unfold R_gs
  simp only [e1, e2]
  exact h.gs
/-- the ways laid so far -/
def Wn (I : Nat → Nat → Int32) (n : Nat) : Prop := ∀ q : Nat, q < n → gR (I 138 q) 0 8
def fy (I I' : Nat → Nat → Int32) : Prop := (∀ k, I' 105 k = I 105 k) ∧ ∀ k, I' 136 k = I 136 k
theorem gR_ite {c : Prop} [Decidable c] {x y : Int32} {l h : Int} (hx : gR x l h) (hy : gR y l h) : gR (if c then x else y) l h := by
  by_cases hc : c
  · rw [if_pos hc]; exact hx
  · rw [if_neg hc]; exact hy
theorem gw0 : gR 0 0 8 := ⟨0, by decide, by decide, rfl⟩
theorem gw1 : gR 1 0 8 := ⟨1, by decide, by decide, rfl⟩
theorem gw2 : gR 2 0 8 := ⟨2, by decide, by decide, rfl⟩
theorem gw3 : gR 3 0 8 := ⟨3, by decide, by decide, rfl⟩
theorem gw4 : gR 4 0 8 := ⟨4, by decide, by decide, rfl⟩
theorem gw5 : gR 5 0 8 := ⟨5, by decide, by decide, rfl⟩
theorem gw6 : gR 6 0 8 := ⟨6, by decide, by decide, rfl⟩
theorem gw7 : gR 7 0 8 := ⟨7, by decide, by decide, rfl⟩
theorem gw8 : gR 8 0 8 := ⟨8, by decide, by decide, rfl⟩
theorem wayR (x y z : Int32) : gR (v_m_wayOf x y z) 0 8 := by
  unfold v_m_wayOf
  repeat' (first | with_reducible exact gw0 | with_reducible exact gw1 | with_reducible exact gw2 | with_reducible exact gw3 | with_reducible exact gw4 | with_reducible exact gw5 | with_reducible exact gw6 | with_reducible exact gw7 | with_reducible exact gw8 | with_reducible apply gR_ite)
theorem wayAt (a b : Nat) : 23 * (Int32.ofInt ((a : Int) - 11) + 11) + Int32.ofInt ((b : Int) - 11) + 11 = Int32.ofInt ((23 * a + b : Nat) : Int) := by
  rw [show (23 : Int32) = Int32.ofInt 23 from rfl, show (11 : Int32) = Int32.ofInt 11 from rfl, oi_add, oi_mul, oi_add, oi_add]
  congr 1
  omega
theorem waySucc (a : Nat) : Int32.ofInt ((a : Int) - 11) + 1 = Int32.ofInt (((a + 1 : Nat) : Int) - 11) := by
  rw [show (1 : Int32) = Int32.ofInt 1 from rfl, oi_add]
  congr 1
  omega
theorem wl_214_12 {X : am_X} {d : Nat} {I : Nat → Nat → Int32} {J : Nat → Nat → Int64} {Q : Option Value → am_M → Prop} {a : Nat} (ha : a < 23) (kx : ∀ I' : Nat → Nat → Int32, Inv I' → fy I I' → Wn I' (23 * (a + 1)) → am_wp X (d + 2) 214 3 [.ref 105, .int (Int32.ofInt (((a + 1 : Nat) : Int) - 11)), .int (Int32.ofInt (((23 : Nat) : Int) - 11))] [] (am_N I' J) Q) : ∀ b : Nat, b ≤ 23 → ∀ I' : Nat → Nat → Int32, Inv I' → fy I I' → Wn I' (23 * a + b) → am_wp X (d + 2) 214 12 [.ref 105, .int (Int32.ofInt ((a : Int) - 11)), .int (Int32.ofInt ((b : Int) - 11))] [] (am_N I' J) Q := by
  refine am_down ?_ ?_
  · intro I' hI hf hW
    refine c_214_12 ⟨fun _ => ?_, fun h => absurd (by decide) h⟩
    rw [waySucc]
    exact kx I' hI hf (fun q hq => hW q (by omega))
  · intro b hb ih I' hI hf hW
    have hn : ¬ (12 : Int32) ≤ Int32.ofInt ((b : Int) - 11) := by
      rw [show (12 : Int32) = Int32.ofInt 12 from rfl, oi_le (by omega) (by omega)]
      omega
    refine c_214_12 ⟨fun h => absurd h hn, fun _ => ?_⟩
    rw [wayAt, waySucc]
    refine ⟨oi_ix (by omega) (by omega) (by omega), ?_⟩
    refine ih _ hI.w138 ⟨fun k => (congrFun (am_up_ne (by decide)) k).trans (hf.1 k), fun k => (congrFun (am_up_ne (by decide)) k).trans (hf.2 k)⟩ ?_
    intro q hq
    rw [oi_cln (by omega)]
    by_cases e : q = 23 * a + b
    · subst e
      rw [am_up_eq, am_up_self]
      exact wayR _ _ _
    · rw [am_up_k e]
      exact hW q (by omega)
theorem wl_214_3 {X : am_X} {d : Nat} {I : Nat → Nat → Int32} {J : Nat → Nat → Int64} {Q : Option Value → am_M → Prop} (k : ∀ I' : Nat → Nat → Int32, Inv I' → fy I I' → Wn I' 529 → Q none (am_N I' J)) : ∀ a : Nat, a ≤ 23 → ∀ (I' : Nat → Nat → Int32) (u : Value), u.category = 1 → Inv I' → fy I I' → Wn I' (23 * a) → am_wp X (d + 2) 214 3 [.ref 105, .int (Int32.ofInt ((a : Int) - 11)), u] [] (am_N I' J) Q := by
  refine am_down ?_ ?_
  · intro I' u hu hI hf hW
    exact c_214_3 hu ⟨fun _ => k I' hI hf hW, fun h => absurd (by decide) h⟩
  · intro a ha ih I' u hu hI hf hW
    have hn : ¬ (12 : Int32) ≤ Int32.ofInt ((a : Int) - 11) := by
      rw [show (12 : Int32) = Int32.ofInt 12 from rfl, oi_le (by omega) (by omega)]
      omega
    refine c_214_3 hu ⟨fun h => absurd h hn, fun _ => ?_⟩
    exact wl_214_12 ha (fun I2 h1 h2 h3 => ih I2 _ rfl h1 h2 h3) 0 (by omega) I' hI hf hW
theorem w_findWays {X : am_X} {d : Nat} {I : Nat → Nat → Int32} {J : Nat → Nat → Int64} {Q : Option Value → am_M → Prop} (hI : Inv I) (k : ∀ I' : Nat → Nat → Int32, Inv I' → fy I I' → Wn I' 529 → Q none (am_N I' J)) : am_wp X (d + 2) 214 0 [.ref 105, am_uv, am_uv] [] (am_N I J) Q :=
  c_214 (wl_214_3 k 0 (by omega) I _ rfl hI ⟨fun _ => rfl, fun _ => rfl⟩ (fun q hq => absurd hq (by omega)))
