theorem c_98 {X : am_X} {d : Nat} {I : Nat → Nat → Int32} {J : Nat → Nat → Int64} {Q : Option Value → am_M → Prop} {x0 : Int32} (hI : Inv I) (k : (((v_isWithin x0 0 6) = 0 → Q (some (.int (-2))) (am_N I J)) ∧ (¬ (v_isWithin x0 0 6) = 0 → ((Inv I ∧ Wf I ∧ Cw I) ∧ ∀ (I3272 : Nat → Nat → Int32) (J3273 : Nat → Nat → Int64), f28 I I3272 → ((x0 = 5 → Q (some (.int (I3272 87 4))) (am_N I3272 J3273)) ∧ (x0 = 6 → Q (some (.int (I3272 87 5))) (am_N I3272 J3273)) ∧ (¬ x0 = 5 → ¬ x0 = 6 → Q (some (.int (v_partOfGuess (I3272 87 2) (I3272 87 3) x0))) (am_N I3272 J3273))))))) : am_wp X (d + 6) 98 0 [.ref 0, .int x0] [] (am_N I J) Q := s98_0 (s98_1 (s98_2 (s98_4 (Nat.le_of_ble_eq_true rfl) (w_isWithin (am_aft (s98_7 (fun h3271 => have k := k.1 h3271; s98_10 (s98_12 (k))) (fun h3271 => have k := k.2 h3271; s98_13 (s98_14 k0_0 p0_0_3 (s98_17 k0_87 (Nat.le_of_ble_eq_true rfl) (w_28 k.1.1 k.1.2.1 k.1.2.2 (fun I3272 J3273 h1 => have k := k.2 I3272 J3273 h1; am_aft0 (s98_20 (s98_21 (fun h3274 => have k := k.1 h3274; s98_48 (s98_49 k0_0 p0_0_3 (s98_52 k0_87 (s98_55 (k))))) (fun h3275 => have k := k.2.1 h3275; s98_56 (s98_57 k0_0 p0_0_3 (s98_60 k0_87 (s98_63 (k))))) (fun h3276 h3277 => have k := k.2.2 h3276 h3277; s98_64 (s98_65 k0_0 p0_0_3 (s98_68 k0_87 (s98_71 (s98_72 k0_0 p0_0_3 (s98_75 k0_87 (s98_78 (s98_79 (Nat.le_of_ble_eq_true rfl) (w_partOfGuess (am_aft (s98_82 (k)))))))))))))))))))))))))
theorem c2_207 {X : am_X} {d : Nat} {I : Nat → Nat → Int32} {J : Nat → Nat → Int64} {Q : Option Value → am_M → Prop} {x0 : Int32} (k : (((v_within x0 0 6) = 0 → Q (some (.int (-2))) (am_N I J)) ∧ (¬ (v_within x0 0 6) = 0 → ((Inv I ∧ Wf I) ∧ ∀ (I3279 : Nat → Nat → Int32), f206 I I3279 → ((x0 = 5 → Q (some (.int (I3279 105 49))) (am_N I3279 J)) ∧ (¬ x0 = 5 → ((x0 = 6 → Q (some (.int (I3279 105 50))) (am_N I3279 J)) ∧ (¬ x0 = 6 → Q (some (.int (v_part I3279 x0))) (am_N I3279 J))))))))) : am_wp X (d + 7) 207 0 [.ref 105, .int x0] [] (am_N I J) Q := s207_0 (s207_1 (s207_2 (s207_4 (Nat.le_of_ble_eq_true rfl) (w_within (am_aft (s207_7 (fun h3278 => have k := k.1 h3278; s207_10 (s207_12 (k))) (fun h3278 => have k := k.2 h3278; s207_13 (s207_14 k0_105 (Nat.le_of_ble_eq_true rfl) (w_206 k.1.1 k.1.2 (fun I3279 h1 => have k := k.2 I3279 h1; am_aft0 (s207_17 (s207_18 (s207_19 (fun h3280 => have k := k.1 h3280; s207_22 (s207_23 k0_105 (s207_26 (s207_47 (k))))) (fun h3280 => have k := k.2 h3280; s207_29 (s207_30 (s207_32 (fun h3281 => have k := k.1 h3281; s207_35 (s207_36 k0_105 (s207_39 (s207_47 (k))))) (fun h3281 => have k := k.2 h3281; s207_42 (s207_43 (s207_44 k0_105 (Nat.le_of_ble_eq_true rfl) (w_part (am_aft (s207_47 (k)))))))))))))))))))))))
theorem Sm.ag2 {I I1 : Nat → Nat → Int32} (h : Sm I I1) (c : Nat) : Ag2 (Vc I1 c) (Vc I c) := by
  refine ⟨by rw [bk_V, bk_V]; exact h.1, fun r hr => ?_⟩
  rw [bk_V] at hr
  obtain ⟨e, s⟩ := h.2 r hr
  obtain ⟨s1, s2, s3⟩ := s (Int32.ofInt (c : Int))
  exact ⟨⟨by rw [Vc.o I1 c (by omega), Vc.o I c (by omega), e], by rw [Vc.o I1 c (by omega), Vc.o I c (by omega), e]⟩, fun _ => ⟨s1, s2, s3⟩⟩
theorem fst2_sm {I I1 : Nat → Nat → Int32} (hI : Inv I) (h : Sm I I1) : ∀ m, fst2 I1 m = fst2 I m := by
  intro m
  induction m with
  | zero => rfl
  | succ m ih =>
    obtain ⟨e1, e2, e3⟩ := (h.ag2 (m / 24)).g (Vc.inv hI (m / 24)) (m % 24)
    have f1 : fN I1 m = fN I m := e1
    have f2 : fH I1 m = fH I m := e2
    have f3 : fTi I1 m = fTi I m := e3
    show (if Int32.ofInt (fN I1 m : Int) < (fst2 I1 m).1 ∧ Int32.ofInt (fH I1 m : Int) < (fst2 I1 m).1 then (Int32.ofInt (fH I1 m : Int), m, fTi I1 m) else fst2 I1 m) = (if Int32.ofInt (fN I m : Int) < (fst2 I m).1 ∧ Int32.ofInt (fH I m : Int) < (fst2 I m).1 then (Int32.ofInt (fH I m : Int), m, fTi I m) else fst2 I m)
    rw [f1, f2, f3, ih]
theorem Cw.of {I I1 : Nat → Nat → Int32} (h : Cw I) (hI : Inv I) (hs : Sm I I1) (e : ∀ k, 1 ≤ k → k ≤ 5 → I1 87 k = I 87 k) : Cw I1 := by
  intro q
  rw [e 1 (by omega) (by omega)] at q
  unfold Fm
  rw [fst2_sm hI hs, e 5 (by omega) (by omega), e 2 (by omega) (by omega), e 3 (by omega) (by omega), e 4 (by omega) (by omega)]
  exact h q
theorem f28.cw {I I1 : Nat → Nat → Int32} (h : f28 I I1) (hI : Inv I) : Cw I1 := by
  intro _
  unfold Fm
  rw [fst2_sm hI (h.1.vw.q hI)]
  exact h.2.2
theorem part_lk {I3 I : Nat → Nat → Int32} {g : Nat} (hg : g < 13824) (h : lk I3 I (Int32.ofInt (g : Int))) (w : Int32) : v_part I w = v_partOfGuess (Int32.ofInt ((g / 24 : Nat) : Int)) (Int32.ofInt ((g % 24 : Nat) : Int)) w := by
  obtain ⟨-, ⟨z1, z2, z3, z4, z5⟩, -⟩ := lk.gl h (I' := I) (fun _ _ _ => rfl)
  have eg : Int32.ofInt (g : Int) = gn (g / 24) (g % 24) := by
    unfold gn
    rw [show 24 * (g / 24) + g % 24 = g by omega]
  obtain ⟨x1, x2, x3, x4, x5⟩ := gn_at (c := g / 24) (i := g % 24) (by omega) (by omega)
  obtain ⟨y1, y2, y3⟩ := cn_at (c := g / 24) (by omega)
  have e4 : Int32.ofInt ((g % 24 : Nat) : Int) / 2 + 1 = Int32.ofInt ((g % 24 / 2 + 1 : Nat) : Int) := by
    rw [show (2 : Int32) = Int32.ofInt 2 from rfl, show (1 : Int32) = Int32.ofInt 1 from rfl, oi_div (by omega) (by omega) (by omega) (by omega), oi_add]
    congr 1
  have e5 : am_rem (Int32.ofInt ((g % 24 : Nat) : Int)) 2 = Int32.ofInt ((g % 24 % 2 : Nat) : Int) := by
    rw [show (2 : Int32) = Int32.ofInt 2 from rfl, oi_rem (by omega) (by omega) (by omega) (by omega)]
    congr 1
  unfold v_part v_partOfGuess
  rw [z1, z2, z3, z4, z5, eg, x1, x2, x3, x4, x5, y1, y2, y3, e4, e5]
theorem fst2_bd (I : Nat → Nat → Int32) : (fst2 I 13824).2.1 < 13824 := by
  rcases fst2_lt I 13824 with q | q | q <;> omega
theorem e_98 {X : am_X} {d : Nat} {I : Nat → Nat → Int32} {J : Nat → Nat → Int64} {Q : Option Value → am_M → Prop} {x0 : Int32} (hI : Inv I) (hw : Wf I) (hc : Cw I) (k : ∀ (r : Int32) (I1 : Nat → Nat → Int32) (J1 : Nat → Nat → Int64), Md 207 7 [.ref 105, .int x0] (fun v => v = .int r) I1 → Q (some (.int r)) (am_N I1 J1)) : am_wp X (d + 6) 98 0 [.ref 0, .int x0] [] (am_N I J) Q := by
  refine c_98 hI ⟨fun q => k _ _ _ (fun X d J Q k' => c2_207 ⟨fun _ => k' _ _ _ rfl hI, fun q' => absurd q q'⟩), fun q => ⟨⟨hI, hw, hc⟩, fun I1 J1 h1 => ?_⟩⟩
  have hI1 : Inv I1 := hI.sm h1.1.sm
  have hw1 : Wf I1 := h1.1.vw.wf hw
  have eF := fst2_sm hI (h1.1.vw.q hI) 13824
  obtain ⟨-, -, f5, f⟩ := h1
  obtain ⟨f2, f3, f4⟩ := f.resolve_left (by omega)
  refine ⟨fun a => k _ _ _ (fun X d J Q k' => c2_207 ⟨fun q' => absurd q' q, fun _ => ⟨⟨hI1, hw1⟩, fun I2 h2 => ⟨fun _ => k' _ _ _ (congrArg Value.int ?_) h2.1.2, fun a' => absurd a a'⟩⟩⟩), fun a => k _ _ _ (fun X d J Q k' => c2_207 ⟨fun q' => absurd q' q, fun _ => ⟨⟨hI1, hw1⟩, fun I2 h2 => ⟨fun a' => absurd (a.symm.trans a') (by decide), fun _ => ⟨fun _ => k' _ _ _ (congrArg Value.int ?_) h2.1.2, fun a' => absurd a a'⟩⟩⟩⟩), fun a b => k _ _ _ (fun X d J Q k' => c2_207 ⟨fun q' => absurd q' q, fun _ => ⟨⟨hI1, hw1⟩, fun I2 h2 => ⟨fun a' => absurd a' a, fun _ => ⟨fun b' => absurd b' b, fun _ => k' _ _ _ (congrArg Value.int ?_) h2.1.2⟩⟩⟩⟩)⟩
  · rw [h2.2.1.2, eF, f4]
  · rw [h2.2.1.1, eF, f5]
  · obtain ⟨I3, h3⟩ := h2.2.2.2
    rw [part_lk (fst2_bd I1) h3, eF, f2, f3]
