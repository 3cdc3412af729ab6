theorem c_26 {X : am_X} {d : Nat} {I : Nat → Nat → Int32} {J : Nat → Nat → Int64} {Q : Option Value → am_M → Prop} (k : am_wp X (d + 5) 26 4 [.ref 91, .int 0, .int 0] [] (am_N I J) Q) : am_wp X (d + 5) 26 0 [.ref 91, am_uv, am_uv] [] (am_N I J) Q := s26_0 (s26_1 rfl (s26_2 (s26_3 rfl (k))))
theorem c_26_4 {X : am_X} {d : Nat} {I : Nat → Nat → Int32} {J : Nat → Nat → Int64} {Q : Option Value → am_M → Prop} {n m : Int32} (k : (((I 91 4) ≤ m → Q (some (.int n)) (am_N I J)) ∧ (¬ (I 91 4) ≤ m → ((Inv I ∧ gR (I 91 4) 0 12) ∧ am_wp X (d + 5) 26 4 [.ref 91, .int (am_max n (f_sum (fun j => if f_fst I (Int32.ofInt (j : Int)) = m then 1 else 0) (Int32.toNatClampNeg (I 91 4)))), .int (m + 1)] [] (am_N I J) Q)))) : am_wp X (d + 5) 26 4 [.ref 91, .int n, .int m] [] (am_N I J) Q := s26_4 (s26_5 (s26_6 k0_91 (s26_9 (fun h2782 => have k := k.1 h2782; s26_28 (s26_29 (k))) (fun h2782 => have k := k.2 h2782; s26_12 (s26_13 (s26_14 (s26_15 k0_91 (Nat.le_of_ble_eq_true rfl) (w_24 k.1.1 k.1.2 (have k := k.2; am_aft (s26_18 (Nat.le_of_ble_eq_true rfl) (s26_21 rfl (s26_22 rfl (s26_25 (k))))))))))))))
theorem c_179_19 {X : am_X} {d : Nat} {I : Nat → Nat → Int32} {J : Nat → Nat → Int64} {Q : Option Value → am_M → Prop} {x0 n w m : Int32} {u : Value} (hu : u.category = 1) (k : (((I 105 21) ≤ m → ((x0 = 0 → Q (some (.int n)) (am_N I J)) ∧ (¬ x0 = 0 → Q (some (.int w)) (am_N I J)))) ∧ (¬ (I 105 21) ≤ m → ((Inv I ∧ am_ix m 12) ∧ (((f_par I m) = (-9) → ((Inv I ∧ gR (I 105 21) 0 12) ∧ (((f_sum (fun j => if f_fst I (Int32.ofInt (j : Int)) = m then 1 else 0) (Int32.toNatClampNeg (I 105 21))) ≤ w → am_wp X (d + 4) 179 19 [.ref 105, .int x0, .int (n + 1), .int w, .int (m + 1), .int (f_sum (fun j => if f_fst I (Int32.ofInt (j : Int)) = m then 1 else 0) (Int32.toNatClampNeg (I 105 21)))] [] (am_N I J) Q) ∧ (¬ (f_sum (fun j => if f_fst I (Int32.ofInt (j : Int)) = m then 1 else 0) (Int32.toNatClampNeg (I 105 21))) ≤ w → am_wp X (d + 4) 179 19 [.ref 105, .int x0, .int (n + 1), .int (f_sum (fun j => if f_fst I (Int32.ofInt (j : Int)) = m then 1 else 0) (Int32.toNatClampNeg (I 105 21))), .int (m + 1), .int (f_sum (fun j => if f_fst I (Int32.ofInt (j : Int)) = m then 1 else 0) (Int32.toNatClampNeg (I 105 21)))] [] (am_N I J) Q)))) ∧ (¬ (f_par I m) = (-9) → am_wp X (d + 4) 179 19 [.ref 105, .int x0, .int n, .int w, .int (m + 1), u] [] (am_N I J) Q)))))) : am_wp X (d + 4) 179 19 [.ref 105, .int x0, .int n, .int w, .int m, u] [] (am_N I J) Q := s179_19 (s179_21 (s179_22 k0_105 (s179_25 (fun h2783 => have k := k.1 h2783; s179_69 (s179_70 (fun h2784 => have k := k.1 h2784; s179_73 (s179_74 (s179_78 (k)))) (fun h2784 => have k := k.2 h2784; s179_77 (s179_78 (k))))) (fun h2783 => have k := k.2 h2783; s179_28 (s179_29 (s179_31 k0_105 (Nat.le_of_ble_eq_true rfl) (w_parentOf k.1.1 k.1.2 (have k := k.2; am_aft (s179_34 (s179_36 (fun h2785 => have k := k.1 h2785; s179_39 (s179_40 (s179_42 k0_105 (Nat.le_of_ble_eq_true rfl) (w_177 k.1.1 k.1.2 (have k := k.2; am_aft (s179_45 rfl (s179_47 rfl (s179_50 (s179_52 (s179_53 (fun h2786 => have k := k.1 h2786; s179_61 (s179_62 rfl (s179_63 rfl (s179_66 (k))))) (fun h2786 => have k := k.2 h2786; s179_56 (s179_58 (s179_62 rfl (s179_63 rfl (s179_66 (k)))))))))))))))) (fun h2785 => have k := k.2 h2785; s179_63 rfl (s179_66 (k)))))))))))))
def f_fam (I : Nat → Nat → Int32) (m : Nat) : Int32 := f_sum (fun j => if f_fst I (Int32.ofInt (j : Int)) = Int32.ofInt (m : Int) then 1 else 0) (Int32.toNatClampNeg (I 105 21))
def f_gr (I : Nat → Nat → Int32) : Nat → Int32
  | 0 => 0
  | m + 1 => am_max (f_gr I m) (f_fam I m)
theorem f_gr_s (I : Nat → Nat → Int32) (m : Nat) : f_gr I (m + 1) = am_max (f_gr I m) (f_fam I m) := rfl
theorem f_gr_0 {I : Nat → Nat → Int32} : ∀ m, ¬ f_gr I m < 0 := by
  intro m
  induction m with
  | zero => exact (by decide : ¬ (0 : Int32) < 0)
  | succ m ih =>
    rw [f_gr_s]
    unfold am_max
    by_cases h : f_gr I m < f_fam I m
    · rw [if_pos h]
      intro q
      exact ih (Int32.lt_trans h q)
    · rw [if_neg h]
      exact ih
theorem first_end {I : Nat → Nat → Int32} (hI : Inv I) : ∀ (n p : Nat), p < 12 → (∃ z : Int, I 126 p = Int32.ofInt z ∧ 0 ≤ z ∧ z ≤ 12 ∧ 12 - z < n) → f_par I (f_first I n (Int32.ofInt (p : Int))) = -9 := by
  intro n
  induction n with
  | zero =>
    intro p hp hz
    obtain ⟨z, h1, h2, h3, h4⟩ := hz
    omega
  | succ n ih =>
    intro p hp hz
    have e : f_first I (n + 1) (Int32.ofInt (p : Int)) = if f_par I (Int32.ofInt (p : Int)) = -9 then Int32.ofInt (p : Int) else f_first I n (f_par I (Int32.ofInt (p : Int))) := rfl
    rw [e]
    by_cases h : f_par I (Int32.ofInt (p : Int)) = -9
    · rw [if_pos h]
      exact h
    · rw [if_neg h]
      obtain ⟨q, hq, h1, h2⟩ := f_par_sp hI h
      rw [oi_cln (by omega)] at h2
      rw [h1]
      obtain ⟨z, z1, z2, z3, z4⟩ := hz
      obtain ⟨y, y1, y2, y3⟩ := (hI.2.2.2.2.1 q hq).2.2.2.2.2.2.1
      rw [z1, y3, oi_le (by omega) (by omega)] at h2
      exact ih q hq ⟨y, y3, y1, y2, by omega⟩
theorem fst_end {I : Nat → Nat → Int32} (hI : Inv I) {p : Nat} (hp : p < 12) : f_par I (f_fst I (Int32.ofInt (p : Int))) = -9 := by
  obtain ⟨y, y1, y2, y3⟩ := (hI.2.2.2.2.1 p hp).2.2.2.2.2.2.1
  exact first_end hI 13 p hp ⟨y, y3, y1, y2, by omega⟩
theorem f_sum_0 {f : Nat → Int32} : ∀ m, (∀ j, j < m → f j = 0) → f_sum f m = 0 := by
  intro m
  induction m with
  | zero => intro _; rfl
  | succ m ih =>
    intro h
    show f_sum f m + f m = 0
    rw [ih (fun j hj => h j (by omega)), h m (by omega)]
    decide
theorem fam_0 {I : Nat → Nat → Int32} (hI : Inv I) {m : Nat} (h : ¬ f_par I (Int32.ofInt (m : Int)) = -9) : f_fam I m = 0 := by
  obtain ⟨n1, l1⟩ := hI.flen
  refine f_sum_0 _ (fun j hj => ?_)
  have l2 : Int32.toNatClampNeg (I 105 21) ≤ 12 := l1
  rw [if_neg]
  intro q
  have := fst_end hI (p := j) (by omega)
  rw [q] at this
  exact h this
theorem wl_26 {X : am_X} {d : Nat} {I : Nat → Nat → Int32} {J : Nat → Nat → Int64} {Q : Option Value → am_M → Prop} {N : Nat} (hI : Inv I) (hN : N ≤ 12) (hc : I 91 4 = Int32.ofInt (N : Int)) (k : Q (some (.int (f_gr I N))) (am_N I J)) : ∀ m : Nat, m ≤ N → am_wp X (d + 5) 26 4 [.ref 91, .int (f_gr I m), .int (Int32.ofInt (m : Int))] [] (am_N I J) Q := by
  have e21 : I 105 21 = I 91 4 := hI.2.2.2.1.2
  refine am_down ?_ ?_
  · exact c_26_4 ⟨fun _ => k, fun h => absurd (by rw [hc]; exact Int32.le_refl _) h⟩
  · intro m hm ih
    rw [f_gr_s, ← oi_succ] at ih
    unfold f_fam at ih
    rw [e21] at ih
    exact c_26_4 ⟨fun h => absurd h (by rw [hc, oi_le (by omega) (by omega)]; omega), fun _ => ⟨⟨hI, hI.2.2.2.1.1⟩, ih⟩⟩
theorem wl_179 {X : am_X} {d : Nat} {I : Nat → Nat → Int32} {J : Nat → Nat → Int64} {Q : Option Value → am_M → Prop} {N : Nat} {x0 : Int32} (hI : Inv I) (hN : N ≤ 12) (hc : I 105 21 = Int32.ofInt (N : Int)) (k0 : x0 = 0 → Q (some (.int (f_sum (fun j => if f_par I (Int32.ofInt (j : Int)) = -9 then 1 else 0) N))) (am_N I J)) (k1 : ¬ x0 = 0 → Q (some (.int (f_gr I N))) (am_N I J)) : ∀ m : Nat, m ≤ N → ∀ u : Value, u.category = 1 → am_wp X (d + 4) 179 19 [.ref 105, .int x0, .int (f_sum (fun j => if f_par I (Int32.ofInt (j : Int)) = -9 then 1 else 0) m), .int (f_gr I m), .int (Int32.ofInt (m : Int)), u] [] (am_N I J) Q := by
  have hg : gR (I 105 21) 0 12 := by rw [hI.2.2.2.1.2]; exact hI.2.2.2.1.1
  refine am_down ?_ ?_
  · intro u hu
    exact c_179_19 hu ⟨fun _ => ⟨k0, k1⟩, fun h => absurd (by rw [hc]; exact Int32.le_refl _) h⟩
  · intro m hm ih u hu
    have hi : am_ix (Int32.ofInt (m : Int)) 12 := oi_ix (by omega) (by omega) (by omega)
    have e : f_sum (fun j => if f_par I (Int32.ofInt (j : Int)) = -9 then 1 else 0) (m + 1) = f_sum (fun j => if f_par I (Int32.ofInt (j : Int)) = -9 then 1 else 0) m + (if f_par I (Int32.ofInt (m : Int)) = -9 then 1 else 0) := rfl
    rw [e, f_gr_s, ← oi_succ] at ih
    refine c_179_19 hu ⟨fun h => absurd h (by rw [hc, oi_le (by omega) (by omega)]; omega), fun _ => ⟨⟨hI, hi⟩, fun h => ⟨⟨hI, hg⟩, fun q => ?_, fun q => ?_⟩, fun h => ?_⟩⟩
    · have q' : ¬ f_gr I m < f_fam I m := Int32.not_lt.mpr q
      unfold am_max at ih
      rw [if_pos h, if_neg q'] at ih
      exact ih _ rfl
    · have q' : f_gr I m < f_fam I m := Int32.not_le.mp q
      unfold am_max at ih
      rw [if_pos h, if_pos q'] at ih
      exact ih _ rfl
    · unfold am_max at ih
      rw [if_neg h, fam_0 hI h, if_neg (f_gr_0 m), Int32.add_zero] at ih
      exact ih _ hu
theorem w_26 {X : am_X} {d : Nat} {I : Nat → Nat → Int32} {J : Nat → Nat → Int64} {Q : Option Value → am_M → Prop} (hI : Inv I) (k : Q (some (.int (f_gr I (Int32.toNatClampNeg (I 91 4))))) (am_N I J)) : am_wp X (d + 5) 26 0 [.ref 91, am_uv, am_uv] [] (am_N I J) Q := by
  obtain ⟨e, l⟩ := hI.2.2.2.1.1.nat (by decide)
  exact c_26 (wl_26 hI (by omega) e k 0 (by omega))
theorem c_107 {X : am_X} {d : Nat} {I : Nat → Nat → Int32} {J : Nat → Nat → Int64} {Q : Option Value → am_M → Prop} {x0 : Int32} (hI : Inv I) (k : ((x0 = 0 → ((Inv I ∧ gR (I 91 4) 0 12) ∧ Q (some (.int (f_sum (fun j => if f_par I (Int32.ofInt (j : Int)) = -9 then 1 else 0) (Int32.toNatClampNeg (I 91 4))))) (am_N I J))) ∧ (x0 = 1 → (Inv I ∧ Q (some (.int (f_gr I (Int32.toNatClampNeg (I 91 4))))) (am_N I J))) ∧ (¬ x0 = 0 → ¬ x0 = 1 → Q (some (.int (-2))) (am_N I J)))) : am_wp X (d + 6) 107 0 [.ref 0, .int x0] [] (am_N I J) Q := s107_0 (s107_1 (fun h2787 => have k := k.1 h2787; s107_28 (s107_29 k0_0 p0_0_5 (s107_32 k0_91 (Nat.le_of_ble_eq_true rfl) (w_25 k.1.1 k.1.2 (have k := k.2; am_aft (s107_35 (k))))))) (fun h2788 => have k := k.2.1 h2788; s107_36 (s107_37 k0_0 p0_0_5 (s107_40 k0_91 (Nat.le_of_ble_eq_true rfl) (w_26 k.1 (have k := k.2; am_aft (s107_43 (k))))))) (fun h2789 h2790 => have k := k.2.2 h2789 h2790; s107_44 (s107_46 (k))))
theorem c_179 {X : am_X} {d : Nat} {I : Nat → Nat → Int32} {J : Nat → Nat → Int64} {Q : Option Value → am_M → Prop} {x0 : Int32} (k : (((v_within x0 0 1) = 0 → Q (some (.int (-2))) (am_N I J)) ∧ (¬ (v_within x0 0 1) = 0 → am_wp X (d + 4) 179 19 [.ref 105, .int x0, .int 0, .int 0, .int 0, am_uv] [] (am_N I J) Q))) : am_wp X (d + 4) 179 0 [.ref 105, .int x0, am_uv, am_uv, am_uv, am_uv] [] (am_N I J) Q := s179_0 (s179_1 (s179_2 (s179_3 (Nat.le_of_ble_eq_true rfl) (w_within (am_aft (s179_6 (fun h2791 => have k := k.1 h2791; s179_9 (s179_11 (k))) (fun h2791 => have k := k.2 h2791; s179_12 (s179_13 rfl (s179_14 (s179_15 rfl (s179_16 (s179_17 rfl (k)))))))))))))
theorem within1 {x : Int32} (h0 : ¬ x = 0) (h1 : ¬ x = 1) : v_isWithin x 0 1 = 0 := by
  refine Classical.byContradiction fun q => ?_
  obtain ⟨z, z1, z2, e⟩ := within_gR (lo := 0) (hi := 1) q (by decide) (by decide) (by decide) (by decide)
  have : z = 0 ∨ z = 1 := by omega
  rcases this with r | r
  · subst r
    exact h0 e
  · subst r
    exact h1 e
theorem e_107 {X : am_X} {d : Nat} {I : Nat → Nat → Int32} {J : Nat → Nat → Int64} {Q : Option Value → am_M → Prop} {x0 : Int32} (hI : Inv I) (k : ∀ (r : Int32) (I1 : Nat → Nat → Int32) (J1 : Nat → Nat → Int64), Md 179 4 [.ref 105, .int x0, am_uv, am_uv, am_uv, am_uv] (fun v => v = .int r) I1 → Q (some (.int r)) (am_N I1 J1)) : am_wp X (d + 6) 107 0 [.ref 0, .int x0] [] (am_N I J) Q := by
  have e21 : I 105 21 = I 91 4 := hI.2.2.2.1.2
  obtain ⟨n1, l1⟩ := hI.2.2.2.1.1.nat (by decide)
  refine c_107 hI ⟨fun w => ⟨⟨hI, hI.2.2.2.1.1⟩, ?_⟩, fun w => ⟨hI, ?_⟩, fun w0 w1 => ?_⟩
  · subst w
    refine k _ _ _ ?_
    intro X d J Q k'
    exact c_179 ⟨fun q => absurd q (by decide), fun _ => wl_179 hI (by omega) (e21.trans n1) (fun _ => k' _ _ _ rfl hI) (fun q => absurd rfl q) 0 (by omega) _ rfl⟩
  · subst w
    refine k _ _ _ ?_
    intro X d J Q k'
    exact c_179 ⟨fun q => absurd q (by decide), fun _ => wl_179 hI (by omega) (e21.trans n1) (fun q => absurd q (by decide)) (fun _ => k' _ _ _ rfl hI) 0 (by omega) _ rfl⟩
  · refine k _ _ _ ?_
    intro X d J Q k'
    exact c_179 ⟨fun _ => k' _ _ _ rfl hI, fun q => absurd (within1 w0 w1) q⟩
