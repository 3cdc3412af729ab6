theorem s176_0 {X : am_X} {d : Nat} {v0 v2 : Value} {x : Int32} {σ : am_M} {st : List Value} {Q : Option Value → am_M → Prop} (k : am_wp X d 176 1 [v0, .int x, v2] (.int x :: st) σ Q) : am_wp X d 176 0 [v0, .int x, v2] st σ Q := g_iln (i := 1) (by decide +kernel) rfl k
theorem s176_1 {X : am_X} {d : Nat} {v0 v1 v2 : Value} {x : Int32} {σ : am_M} {st : List Value} {Q : Option Value → am_M → Prop} (h : v1.category = 1) (k : am_wp X d 176 2 [v0, v1, .int x] st σ Q) : am_wp X d 176 1 [v0, v1, v2] (.int x :: st) σ Q := g_isn (i := 2) (by decide +kernel) (Nat.le_of_ble_eq_true rfl) (Or.inr h) rfl k
theorem s176_2 {X : am_X} {d : Nat} {v1 v2 : Value} {x : Nat} {σ : am_M} {st : List Value} {Q : Option Value → am_M → Prop} (k : am_wp X d 176 3 [.ref x, v1, v2] (.ref x :: st) σ Q) : am_wp X d 176 2 [.ref x, v1, v2] st σ Q := g_aln (i := 0) (by decide +kernel) rfl k
theorem s176_2n {X : am_X} {d : Nat} {v1 v2 : Value} {σ : am_M} {st : List Value} {Q : Option Value → am_M → Prop} (k : am_wp X d 176 3 [.null, v1, v2] (.null :: st) σ Q) : am_wp X d 176 2 [.null, v1, v2] st σ Q := g_aln0 (i := 0) (by decide +kernel) rfl k
theorem s176_3 {X : am_X} {d : Nat} {v0 v1 : Value} {x : Int32} {σ : am_M} {st : List Value} {Q : Option Value → am_M → Prop} (k : am_wp X d 176 4 [v0, v1, .int x] (.int x :: st) σ Q) : am_wp X d 176 3 [v0, v1, .int x] st σ Q := g_iln (i := 2) (by decide +kernel) rfl k
theorem s176_4 {X : am_X} {d : Nat} {ls : List Value} {a : Nat} {y0 : Int32} {I : Nat → Nat → Int32} {J : Nat → Nat → Int64} {st : List Value} {Q : Option Value → am_M → Prop} (h : am_K0[a]? = some (10, 58)) (hr : (st.map fun v => v.category).sum ≤ 8) (k : am_wp X d 175 0 [.ref a, .int y0, am_uv, am_uv, am_uv] [] (am_N I J) (fun v σ' => am_wp X (d + 1) 176 7 ls (v.toList ++ st) σ' Q)) : am_wp X (d + 1) 176 4 ls (.int y0 :: .ref a :: st) (am_N I J) Q := g_cv (k := 203) (m := 175) (n := 1) (mx := 5) (a := a) (o := 10) (nf := 58) (as := [.int y0]) (r := st) (en := [.ref a, .int y0, am_uv, am_uv, am_uv]) (by decide +kernel) (by decide +kernel) (by decide +kernel) (by decide +kernel) (by decide +kernel) h rfl (Nat.le_of_ble_eq_true rfl) rfl rfl hr k
theorem s176_7 {X : am_X} {d : Nat} {ls : List Value} {σ : am_M} {st : List Value} {Q : Option Value → am_M → Prop} (k : am_wp X d 176 9 ls (.int (-9) :: st) σ Q) : am_wp X d 176 7 ls st σ Q := Eq.mpr (r_bp (z := (-9)) (v := (-9)) (by decide +kernel) (by decide +kernel)) k
theorem s176_9 {X : am_X} {d : Nat} {ls : List Value} {x y : Int32} {σ : am_M} {st : List Value} {Q : Option Value → am_M → Prop} (kt : x = y → am_wp X d 176 21 ls st σ Q) (kf : ¬ x = y → am_wp X d 176 12 ls st σ Q) : am_wp X d 176 9 ls (.int y :: .int x :: st) σ Q := Eq.mpr (r_ceq (off := 12) (t := 21) (by decide +kernel) (by decide)) (am_spl kt kf)
theorem s176_12 {X : am_X} {d : Nat} {v1 v2 : Value} {x : Nat} {σ : am_M} {st : List Value} {Q : Option Value → am_M → Prop} (k : am_wp X d 176 13 [.ref x, v1, v2] (.ref x :: st) σ Q) : am_wp X d 176 12 [.ref x, v1, v2] st σ Q := g_aln (i := 0) (by decide +kernel) rfl k
theorem s176_12n {X : am_X} {d : Nat} {v1 v2 : Value} {σ : am_M} {st : List Value} {Q : Option Value → am_M → Prop} (k : am_wp X d 176 13 [.null, v1, v2] (.null :: st) σ Q) : am_wp X d 176 12 [.null, v1, v2] st σ Q := g_aln0 (i := 0) (by decide +kernel) rfl k
theorem s176_13 {X : am_X} {d : Nat} {v0 v1 : Value} {x : Int32} {σ : am_M} {st : List Value} {Q : Option Value → am_M → Prop} (k : am_wp X d 176 14 [v0, v1, .int x] (.int x :: st) σ Q) : am_wp X d 176 13 [v0, v1, .int x] st σ Q := g_iln (i := 2) (by decide +kernel) rfl k
theorem s176_14 {X : am_X} {d : Nat} {ls : List Value} {a : Nat} {y0 : Int32} {I : Nat → Nat → Int32} {J : Nat → Nat → Int64} {st : List Value} {Q : Option Value → am_M → Prop} (h : am_K0[a]? = some (10, 58)) (hr : (st.map fun v => v.category).sum ≤ 8) (k : am_wp X d 175 0 [.ref a, .int y0, am_uv, am_uv, am_uv] [] (am_N I J) (fun v σ' => am_wp X (d + 1) 176 17 ls (v.toList ++ st) σ' Q)) : am_wp X (d + 1) 176 14 ls (.int y0 :: .ref a :: st) (am_N I J) Q := g_cv (k := 203) (m := 175) (n := 1) (mx := 5) (a := a) (o := 10) (nf := 58) (as := [.int y0]) (r := st) (en := [.ref a, .int y0, am_uv, am_uv, am_uv]) (by decide +kernel) (by decide +kernel) (by decide +kernel) (by decide +kernel) (by decide +kernel) h rfl (Nat.le_of_ble_eq_true rfl) rfl rfl hr k
theorem s176_17 {X : am_X} {d : Nat} {v0 v1 v2 : Value} {x : Int32} {σ : am_M} {st : List Value} {Q : Option Value → am_M → Prop} (h : v1.category = 1) (k : am_wp X d 176 18 [v0, v1, .int x] st σ Q) : am_wp X d 176 17 [v0, v1, v2] (.int x :: st) σ Q := g_isn (i := 2) (by decide +kernel) (Nat.le_of_ble_eq_true rfl) (Or.inr h) rfl k
theorem s176_18 {X : am_X} {d : Nat} {ls : List Value} {σ : am_M} {st : List Value} {Q : Option Value → am_M → Prop} (k : am_wp X d 176 2 ls st σ Q) : am_wp X d 176 18 ls st σ Q := Eq.mpr (r_go (off := (-16)) (t := 2) (by decide +kernel) (by decide)) k
theorem s176_21 {X : am_X} {d : Nat} {v0 v1 : Value} {x : Int32} {σ : am_M} {st : List Value} {Q : Option Value → am_M → Prop} (k : am_wp X d 176 22 [v0, v1, .int x] (.int x :: st) σ Q) : am_wp X d 176 21 [v0, v1, .int x] st σ Q := g_iln (i := 2) (by decide +kernel) rfl k
theorem s176_22 {X : am_X} {d : Nat} {ls : List Value} {v : Int32} {σ : am_M} {Q : Option Value → am_M → Prop} (k : Q (some (.int v)) σ) : am_wp X d 176 22 ls [.int v] σ Q := Eq.mpr (r_iret (by decide +kernel) (by decide +kernel)) k
theorem c_176 {X : am_X} {d : Nat} {I : Nat → Nat → Int32} {J : Nat → Nat → Int64} {Q : Option Value → am_M → Prop} {x0 : Int32} (k : am_wp X (d + 2) 176 2 [.ref 105, .int x0, .int x0] [] (am_N I J) Q) : am_wp X (d + 2) 176 0 [.ref 105, .int x0, am_uv] [] (am_N I J) Q := s176_0 (s176_1 rfl (k))
theorem c_176_2 {X : am_X} {d : Nat} {I : Nat → Nat → Int32} {J : Nat → Nat → Int64} {Q : Option Value → am_M → Prop} {x0 x1 : Int32} (k : ((Inv I ∧ am_ix x1 12) ∧ (((f_par I x1) = (-9) → Q (some (.int x1)) (am_N I J)) ∧ (¬ (f_par I x1) = (-9) → ((Inv I ∧ am_ix x1 12) ∧ am_wp X (d + 2) 176 2 [.ref 105, .int x0, .int (f_par I x1)] [] (am_N I J) Q))))) : am_wp X (d + 2) 176 2 [.ref 105, .int x0, .int x1] [] (am_N I J) Q := s176_2 (s176_3 (s176_4 k0_105 (Nat.le_of_ble_eq_true rfl) (w_parentOf k.1.1 k.1.2 (have k := k.2; am_aft (s176_7 (s176_9 (fun h1260 => have k := k.1 h1260; s176_21 (s176_22 (k))) (fun h1260 => have k := k.2 h1260; s176_12 (s176_13 (s176_14 k0_105 (Nat.le_of_ble_eq_true rfl) (w_parentOf k.1.1 k.1.2 (have k := k.2; am_aft (s176_17 rfl (s176_18 (k))))))))))))))
theorem am_ix_eq {x : Int32} {n : Nat} (h : am_ix x n) : x = Int32.ofInt ((Int32.toNatClampNeg x : Nat) : Int) := by
  have h0 : 0 ≤ x.toInt := by
    have g : ¬ x < 0 := fun q => h (Or.inl q)
    rw [Int32.lt_iff_toInt_lt] at g
    exact Int.not_lt.mp g
  show x = Int32.ofInt ((x.toInt.toNat : Nat) : Int)
  rw [Int.toNat_of_nonneg h0, Int32.ofInt_toInt]
theorem f_may_lt {I : Nat → Nat → Int32} {x p : Int32} (h : ¬ v_mayComeOf I x p = 0) : ¬ I 126 (Int32.toNatClampNeg p) ≤ I 126 (Int32.toNatClampNeg x) := by
  intro hl
  refine h ?_
  unfold v_mayComeOf
  simp only [if_pos hl, ite_self]
theorem f_par_sp {I : Nat → Nat → Int32} {x : Int32} (hI : Inv I) (h : ¬ f_par I x = -9) : ∃ p : Nat, p < 12 ∧ f_par I x = Int32.ofInt (p : Int) ∧ ¬ I 126 p ≤ I 126 (Int32.toNatClampNeg x) := by
  rcases f_best_sp I x (f_len I) with h1 | ⟨p, h1, h2, h3⟩
  · exact absurd h1 h
  · have := hI.flen.2
    refine ⟨p, by omega, h2, ?_⟩
    have g := f_may_lt h3
    rw [oi_cln (by omega)] at g
    exact g
/-- the first of a family: up the parents, n steps at most -/
def f_first (I : Nat → Nat → Int32) : Nat → Int32 → Int32
  | 0, x => x
  | n + 1, x => if f_par I x = -9 then x else f_first I n (f_par I x)
theorem wl_first {X : am_X} {d : Nat} {I : Nat → Nat → Int32} {J : Nat → Nat → Int64} {Q : Option Value → am_M → Prop} {x0 : Int32} (hI : Inv I) : ∀ (n : Nat) (p : Nat), p < 12 → (∃ z : Int, I 126 p = Int32.ofInt z ∧ z ≤ 12 ∧ 0 ≤ z ∧ 13 ≤ z + n) → Q (some (.int (f_first I n (Int32.ofInt (p : Int))))) (am_N I J) → am_wp X (d + 2) 176 2 [.ref 105, .int x0, .int (Int32.ofInt (p : Int))] [] (am_N I J) Q := by
  intro n
  induction n with
  | zero =>
    intro p _ hz _
    obtain ⟨z, _, h1, _, h2⟩ := hz
    omega
  | succ n ih =>
    intro p hp hz k
    have hi : am_ix (Int32.ofInt (p : Int)) 12 := oi_ix (by omega) (by omega) (by omega)
    have e : f_first I (n + 1) (Int32.ofInt (p : Int)) = if f_par I (Int32.ofInt (p : Int)) = -9 then Int32.ofInt (p : Int) else f_first I n (f_par I (Int32.ofInt (p : Int))) := rfl
    refine c_176_2 ⟨⟨hI, hi⟩, fun h => ?_, fun h => ⟨⟨hI, hi⟩, ?_⟩⟩
    · rw [e, if_pos h] at k; exact k
    · rw [e, if_neg h] at k
      obtain ⟨q, hq, h1, h2⟩ := f_par_sp hI h
      rw [oi_cln (by omega)] at h2
      rw [h1] at k ⊢
      refine ih q hq ?_ k
      obtain ⟨z, hz1, hz2, hz3, hz4⟩ := hz
      obtain ⟨y, hy1, hy2, hy3⟩ := (hI.2.2.2.2.1 q hq).2.2.2.2.2.2.1
      rw [hz1, hy3, oi_le (by omega) (by omega)] at h2
      exact ⟨y, hy3, hy2, hy1, by omega⟩
def f_fst (I : Nat → Nat → Int32) (x : Int32) : Int32 := f_first I 13 x
theorem w_firstOf {X : am_X} {d : Nat} {I : Nat → Nat → Int32} {J : Nat → Nat → Int64} {Q : Option Value → am_M → Prop} {x0 : Int32} (hI : Inv I) (hx : am_ix x0 12) (k : Q (some (.int (f_fst I x0))) (am_N I J)) : am_wp X (d + 2) 176 0 [.ref 105, .int x0, am_uv] [] (am_N I J) Q := by
  have hl := am_ix_lt hx
  have e : x0 = Int32.ofInt ((Int32.toNatClampNeg x0 : Nat) : Int) := am_ix_eq hx
  obtain ⟨y, hy1, hy2, hy3⟩ := (hI.2.2.2.2.1 _ hl).2.2.2.2.2.2.1
  refine c_176 ?_
  have := wl_first (X := X) (d := d) (J := J) (Q := Q) (x0 := x0) hI 13 _ hl ⟨y, hy3, hy2, hy1, by omega⟩ (by rw [← e]; exact k)
  rw [← e] at this
  exact this
