/-! CALLS, by checks that the kernel runs -/
def am_tcb (o k kd m n : Nat) : Bool := match T_call o k with
  | some (a, b, c, _) => decide (a = kd) && (decide (b = m) && decide (c = n))
  | none => false
theorem am_tce {o k kd m n : Nat} (h : am_tcb o k kd m n = true) : ∃ pp, T_call o k = some (kd, m, n, pp) := by
  unfold am_tcb at h
  split at h
  · rename_i a b c pp hf
    rw [Bool.and_eq_true, Bool.and_eq_true] at h
    have e1 := of_decide_eq_true h.1
    have e2 := of_decide_eq_true h.2.1
    have e3 := of_decide_eq_true h.2.2
    subst e1
    subst e2
    subst e3
    exact ⟨pp, hf⟩
  · cases h
theorem am_b0 : (0 : Int32) = 0 ∨ (0 : Int32) = 1 := Or.inl rfl
theorem am_b1 : (1 : Int32) = 0 ∨ (1 : Int32) = 1 := Or.inr rfl
theorem am_b01 {c : Prop} [Decidable c] {a b : Int32} (ha : a = 0 ∨ a = 1) (hb : b = 0 ∨ b = 1) : (if c then a else b) = 0 ∨ (if c then a else b) = 1 := by
  by_cases h : c
  · rw [if_pos h]
    exact ha
  · rw [if_neg h]
    exact hb
section AMG
variable {X : am_X} {d j pc : Nat} {ls st : List Value} {σ : am_M} {Q : Option Value → am_M → Prop}
theorem g_cs {k kd m n mx : Nat} {as r en : List Value} (hi : T_ins j pc = some (.invokestatic k, 3)) (hc : am_tcb (T_own j) k kd m n = true) (hk : kd ≤ 1) (hm : T_mxl m = mx) (has : as.length = n) (hfl : (am_fl as).length ≤ mx) (hen : am_en mx as = en) (hst : as.reverse ++ r = st) (hr : (r.map fun v => v.category).sum ≤ 8)
    (kk : am_wp X d m 0 en [] σ (fun v σ' => am_wp X (d + 1) j (pc + 3) ls (v.toList ++ r) σ' Q)) : am_wp X (d + 1) j pc ls st σ Q := by
  obtain ⟨pp, hc⟩ := am_tce hc
  subst hen
  subst hm
  have h1 : st.take n = as.reverse := by
    rw [← hst, List.take_append_of_le_length (by rw [List.length_reverse, has]; exact Nat.le_refl _), List.take_of_length_le (by rw [List.length_reverse, has]; exact Nat.le_refl _)]
  have h2 : st.drop n = r := by
    rw [← hst, List.drop_append_of_le_length (by rw [List.length_reverse, has]; exact Nat.le_refl _), List.drop_of_length_le (by rw [List.length_reverse, has]; exact Nat.le_refl _), List.nil_append]
  have h3 : n ≤ st.length := by
    rw [← hst, List.length_append, List.length_reverse, has]
    exact Nat.le_add_right _ _
  refine Eq.mpr (r_cs hi hc hk h1 h2 h3 hr ?_) ?_
  · rw [List.reverse_reverse]
    exact hfl
  · rw [List.reverse_reverse]
    exact kk
theorem g_cv {k m n mx a o nf : Nat} {K : List (Nat × Nat)} {I : Nat → Nat → Int32} {J : Nat → Nat → Int64} {P : List (List (Option Nat))} {sl : Nat} {as r en : List Value} (hi : T_ins j pc = some (.invokevirtual k, 3)) (hc : am_tcb (T_own j) k 2 m n = true) (hm : T_mxl m = mx) (ho : T_own m = o) (hnf : am_nf o = nf) (ha : K[a]? = some (o, nf)) (has : as.length = n) (hfl : (am_fl (.ref a :: as)).length ≤ mx) (hen : am_en mx (.ref a :: as) = en) (hst : as.reverse ++ .ref a :: r = st) (hr : (r.map fun v => v.category).sum ≤ 8)
    (kk : am_wp X d m 0 en [] (K, I, J, P, sl) (fun v σ' => am_wp X (d + 1) j (pc + 3) ls (v.toList ++ r) σ' Q)) : am_wp X (d + 1) j pc ls st (K, I, J, P, sl) Q := by
  obtain ⟨pp, hc⟩ := am_tce hc
  subst hen
  subst hm
  subst hnf
  subst ho
  have h1 : st.take n = as.reverse := by
    rw [← hst, List.take_append_of_le_length (by rw [List.length_reverse, has]; exact Nat.le_refl _), List.take_of_length_le (by rw [List.length_reverse, has]; exact Nat.le_refl _)]
  have h2 : st.drop n = .ref a :: r := by
    rw [← hst, List.drop_append_of_le_length (by rw [List.length_reverse, has]; exact Nat.le_refl _), List.drop_of_length_le (by rw [List.length_reverse, has]; exact Nat.le_refl _), List.nil_append]
  have h3 : n ≤ st.length := by
    rw [← hst, List.length_append, List.length_reverse, has]
    exact Nat.le_add_right _ _
  refine Eq.mpr (r_cv hi hc h1 h2 h3 hr ha ?_) ?_
  · rw [List.reverse_reverse]
    exact hfl
  · rw [List.reverse_reverse]
    exact kk
theorem g_max {k : Nat} {x y : Int32} (hi : T_ins j pc = some (.invokestatic k, 3)) (hc : am_tcb (T_own j) k 7 0 2 = true) (hr : (st.map fun v => v.category).sum ≤ 8) (kk : am_wp X (d + 1) j (pc + 3) ls (.int (am_max x y) :: st) σ Q) : am_wp X (d + 1) j pc ls (.int y :: .int x :: st) σ Q := by
  obtain ⟨pp, hc⟩ := am_tce hc
  exact Eq.mpr (r_max hi hc hr) kk
theorem g_min {k : Nat} {x y : Int32} (hi : T_ins j pc = some (.invokestatic k, 3)) (hc : am_tcb (T_own j) k 8 0 2 = true) (hr : (st.map fun v => v.category).sum ≤ 8) (kk : am_wp X (d + 1) j (pc + 3) ls (.int (am_min x y) :: st) σ Q) : am_wp X (d + 1) j pc ls (.int y :: .int x :: st) σ Q := by
  obtain ⟨pp, hc⟩ := am_tce hc
  exact Eq.mpr (r_min hi hc hr) kk
theorem g_abs {k : Nat} {x : Int32} (hi : T_ins j pc = some (.invokestatic k, 3)) (hc : am_tcb (T_own j) k 9 0 1 = true) (hr : (st.map fun v => v.category).sum ≤ 8) (kk : am_wp X (d + 1) j (pc + 3) ls (.int (am_abs x) :: st) σ Q) : am_wp X (d + 1) j pc ls (.int x :: st) σ Q := by
  obtain ⟨pp, hc⟩ := am_tce hc
  exact Eq.mpr (r_abs hi hc hr) kk
end AMG
