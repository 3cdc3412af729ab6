theorem c_99 {X : am_X} {d : Nat} {I : Nat → Nat → Int32} {J : Nat → Nat → Int64} {Q : Option Value → am_M → Prop} {x0 : Int32} (hI : Inv I) (k : (((v_isReport I x0) = 0 → Q (some (.int (-1))) (am_N I J)) ∧ (¬ (v_isReport I x0) = 0 → (((I (43 + (Int32.toNatClampNeg x0)) 4) = 0 → Q (some (.int 0)) (am_N I J)) ∧ (¬ (I (43 + (Int32.toNatClampNeg x0)) 4) = 0 → ((Inv I ∧ Wf I ∧ Cw I) ∧ ∀ (I3284 : Nat → Nat → Int32) (J3285 : Nat → Nat → Int64), f28 I I3284 → ((Inv I3284 ∧ Wf I3284) ∧ ∀ (I3286 : Nat → Nat → Int32), We I3284 I3286 (I3284 87 2) → (am_ix x0 40 ∧ ((((am_shr (I3286 40 (Int32.toNatClampNeg x0)) (I3286 87 3)) &&& 1) = 1 → (am_ix x0 40 ∧ (((I3286 87 4) < (I3286 41 (Int32.toNatClampNeg x0)) → Q (some (.int 1)) (am_N I3286 J3285)) ∧ (¬ (I3286 87 4) < (I3286 41 (Int32.toNatClampNeg x0)) → (am_ix x0 40 ∧ (((I3286 42 (Int32.toNatClampNeg x0)) < (I3286 87 4) → Q (some (.int 1)) (am_N I3286 J3285)) ∧ (¬ (I3286 42 (Int32.toNatClampNeg x0)) < (I3286 87 4) → Q (some (.int 0)) (am_N I3286 J3285)))))))) ∧ (¬ ((am_shr (I3286 40 (Int32.toNatClampNeg x0)) (I3286 87 3)) &&& 1) = 1 → Q (some (.int 1)) (am_N I3286 J3285))))))))))) : am_wp X (d + 6) 99 0 [.ref 0, .int x0, am_uv] [] (am_N I J) Q := s99_0 (s99_1 k0_0 p0_0_1 (s99_4 (s99_5 k0_35 (Nat.le_of_ble_eq_true rfl) (w_bfind hI (fun h => have k := k.1 h; am_aft (s99_8n rfl (s99_9n (s99_10n (s99_13 (s99_14 (k))))))) (fun h => have b3282 := hI.ixRep h; have k := k.2 h; am_aft (s99_8 rfl (s99_9 (s99_10 (s99_15 (s99_16 (k0_R (isR_of b3282)) (s99_19 (fun h3283 => have k := k.1 h3283; s99_22 (s99_23 (k))) (fun h3283 => have k := k.2 h3283; s99_24 (s99_25 k0_0 p0_0_3 (s99_28 k0_87 (Nat.le_of_ble_eq_true rfl) (w_28 k.1.1 k.1.2.1 k.1.2.2 (fun I3284 J3285 h1 => have k := k.2 I3284 J3285 h1; am_aft0 (s99_31 (s99_32 k0_0 p0_0_1 (s99_35 (s99_36 k0_0 p0_0_3 (s99_39 k0_87 (s99_42 k0_35 (Nat.le_of_ble_eq_true rfl) (w_6 k.1.1 k.1.2 (fun I3286 h1 => have k := k.2 I3286 h1; am_aft0 (s99_45 (s99_46 k0_0 p0_0_1 (s99_49 (s99_50 (s99_51 k0_0 p0_0_3 (s99_54 k0_87 (s99_57 (s99_58 k0_0 p0_0_3 (s99_61 k0_87 (s99_64 k0_35 (Nat.le_of_ble_eq_true rfl) (s11_0 (s11_1 k0_35 p0_35_6 (s11_4 (have b3287 := k.1; have k := k.2; s11_5 k0_40 b3287 (s11_6 (s11_7 (s11_8 (s11_9 (s11_10 (s11_11 (fun h3288 => have k := k.1 h3288; s11_14 (s11_15 k0_35 p0_35_7 (s11_18 (have b3289 := k.1; have k := k.2; s11_19 k0_41 b3289 (s11_20 (s11_21 (fun h3290 => have k := k.1 h3290; s11_38 (s11_39 (Or.inl rfl) (am_aft (s99_67 (fun _ => s99_74 (s99_75 (k))) (fun h => absurd (show (0 : Int32) = 0 by decide) h))))) (fun h3290 => have k := k.2 h3290; s11_24 (s11_25 (s11_26 k0_35 p0_35_8 (s11_29 (have b3292 := k.1; have k := k.2; s11_30 k0_42 b3292 (s11_31 (fun h3293 => have k := k.1 h3293; s11_38 (s11_39 (Or.inl rfl) (am_aft (s99_67 (fun _ => s99_74 (s99_75 (k))) (fun h => absurd (show (0 : Int32) = 0 by decide) h))))) (fun h3293 => have k := k.2 h3293; s11_34 (s11_35 (s11_39 (Or.inr rfl) (am_aft (s99_67 (fun h => absurd h (show ¬ (1 : Int32) = 0 by decide)) (fun _ => s99_70 (s99_71 (s99_75 (k))))))))))))))))))))) (fun h3288 => have k := k.2 h3288; s11_38 (s11_39 (Or.inl rfl) (am_aft (s99_67 (fun _ => s99_74 (s99_75 (k))) (fun h => absurd (show (0 : Int32) = 0 by decide) h)))))))))))))))))))))))))))))))))))))))))))))))))
theorem c2_208 {X : am_X} {d : Nat} {I : Nat → Nat → Int32} {J : Nat → Nat → Int64} {Q : Option Value → am_M → Prop} {x0 : Int32} (k : (((v_isReport I x0) = 0 → Q (some (.int (-1))) (am_N I J)) ∧ (¬ (v_isReport I x0) = 0 → ((Inv I ∧ Wf I) ∧ ∀ (I3298 : Nat → Nat → Int32), f206 I I3298 → ((Inv I3298 ∧ am_ix x0 40) ∧ (((bz (wrb I3298 (Int32.toNatClampNeg x0) (I3298 105 49))) = 0 → Q (some (.int 0)) (am_N I3298 J)) ∧ (¬ (bz (wrb I3298 (Int32.toNatClampNeg x0) (I3298 105 49))) = 0 → Q (some (.int 1)) (am_N I3298 J)))))))) : am_wp X (d + 7) 208 0 [.ref 105, .int x0] [] (am_N I J) Q := s208_0 (s208_1 (s208_2 k0_105 (Nat.le_of_ble_eq_true rfl) (w_isReport (am_aft (s208_5 (fun h3297 => have k := k.1 h3297; s208_8 (s208_9 (k))) (fun h3297 => have k := k.2 h3297; s208_10 (s208_11 k0_105 (Nat.le_of_ble_eq_true rfl) (w_206 k.1.1 k.1.2 (fun I3298 h1 => have k := k.2 I3298 h1; am_aft0 (s208_14 (s208_15 (s208_16 (s208_17 k0_105 (s208_20 k0_105 (Nat.le_of_ble_eq_true rfl) (w_202 k.1 (have k := k.2; am_aft (s208_23 (fun h3299 => have k := k.1 h3299; s208_30 (s208_31 (k))) (fun h3299 => have k := k.2 h3299; s208_26 (s208_27 (s208_31 (k)))))))))))))))))))))
theorem from_0 {I : Nat → Nat → Int32} (hI : Inv I) (hw : Wf I) {c r : Nat} (hc : c < 576) (hr : r < bk I) : 0 ≤ q_from I (Int32.ofInt (c : Int)) r := by
  rw [(time_eq hI hw hc (show 0 < 24 by omega) hr).1]
  split
  · unfold am_max
    split
    · rename_i h
      exact Int32.le_of_lt h
    · exact Int32.le_refl _
  · exact Int32.le_refl _
theorem tin_tfo {I : Nat → Nat → Int32} (hI : Inv I) (hw : Wf I) {c : Nat} (hc : c < 576) (x : Int64) : ∀ m, m ≤ bk I → tin (tfo (Vc I c) x m).2 := by
  intro m
  induction m with
  | zero => exact fun _ => ⟨Int32.le_refl _, by show (0 : Int32) ≤ 1000000; decide⟩
  | succ m ih =>
    intro hm
    have i0 := ih (by omega)
    have f0 : 0 ≤ Vc I c 41 m := from_0 hI hw hc (by omega)
    show tin (if tl x m = true then tst (Cn (Vc I c) x) (tfo (Vc I c) x m) (Vc I c 41 m) else tfo (Vc I c) x m).2
    split
    · unfold tst
      split
      · rename_i h
        split
        · exact ⟨f0, h⟩
        · split
          · split
            · exact i0
            · exact ⟨f0, h⟩
          · exact i0
      · exact i0
    · exact i0
theorem tin_fst {I : Nat → Nat → Int32} (hI : Inv I) (hw : Wf I) : ∀ m, m ≤ 13824 → tin (fst2 I m).2.2 := by
  intro m
  induction m with
  | zero => exact fun _ => ⟨Int32.le_refl _, by show (0 : Int32) ≤ 1000000; decide⟩
  | succ m ih =>
    intro hm
    have i0 := ih (by omega)
    have st : fst2 I (m + 1) = if Int32.ofInt (fN I m : Int) < (fst2 I m).1 ∧ Int32.ofInt (fH I m : Int) < (fst2 I m).1 then (Int32.ofInt (fH I m : Int), m, fTi I m) else fst2 I m := rfl
    by_cases q : Int32.ofInt (fN I m : Int) < (fst2 I m).1 ∧ Int32.ofInt (fH I m : Int) < (fst2 I m).1
    · rw [if_pos q] at st
      rw [st]
      have := tin_tfo hI hw (show m / 24 < 576 by omega) (cst (Vc I (m / 24)) (m % 24)) (bk I) (Nat.le_refl _)
      rw [← bk_V I (m / 24)] at this
      exact this
    · rw [if_neg q] at st
      rw [st]
      exact i0
/-- is a report wrong, on both sides -/
theorem wrong_eq {I I3 : Nat → Nat → Int32} (hI : Inv I) (hw : Wf I) {c i r : Nat} (hc : c < 576) (hi : i < 24) (h : Lg I I3 (gn c i)) {t : Int32} (ht : tin t) (hr : r < bk I) (on : I 132 r = 0) : wrb I3 r t = !(tb (q_so I (Int32.ofInt (c : Int)) r) i && (!decide (t < q_from I (Int32.ofInt (c : Int)) r) && !decide (q_till I (Int32.ofInt (c : Int)) r < t))) := by
  obtain ⟨t1, t2⟩ := time_eq hI hw hc hi hr
  obtain ⟨l1, l2, l3⟩ := h.2.2 r hr
  unfold wrb
  rw [so_eq hI hw hc hi hr, l1, l2, l3, (h.2.1 r).1, (h.2.1 r).2, decide_eq_true on]
  by_cases k2 : I 128 r = 2
  · rw [decide_eq_true k2, if_pos rfl] at t1 t2
    rw [t1, t2, hr_eq ht, decide_eq_true k2]
    cases g_so I (gn c i) r <;> cases decide (t < g_fr I (gn c i) r) <;> cases decide (g_tl I (gn c i) r < t) <;> rfl
  · rw [decide_eq_false k2, if_neg (show ¬ false = true by decide)] at t1 t2
    rw [t1, t2, decide_eq_false k2, decide_eq_false (Int32.not_lt.mpr ht.1), decide_eq_false (Int32.not_lt.mpr ht.2)]
    cases g_so I (gn c i) r <;> rfl
theorem isRep_lt {I : Nat → Nat → Int32} (hI : Inv I) {x : Int32} (h : ¬ v_isReport I x = 0) : Int32.toNatClampNeg x < bk I := by
  obtain ⟨z, rfl, z1, z2⟩ := oi_of x
  have l := hI.book.2
  unfold v_isReport at h
  rw [hI.b26] at h
  by_cases a : Int32.ofInt z < 0
  · rw [if_pos a] at h
    exact absurd rfl h
  · rw [if_neg a] at h
    by_cases b : Int32.ofInt (bk I : Int) ≤ Int32.ofInt z
    · rw [if_pos b] at h
      exact absurd rfl h
    · rw [show (0 : Int32) = Int32.ofInt 0 from rfl, oi_lt (by omega) (by omega)] at a
      rw [oi_le (by omega) (by omega)] at b
      rw [oi_cl (by omega)]
      omega
theorem e_99 {X : am_X} {d : Nat} {I : Nat → Nat → Int32} {J : Nat → Nat → Int64} {Q : Option Value → am_M → Prop} {x0 : Int32} (hI : Inv I) (hw : Wf I) (hc : Cw I) (k : ∀ (r : Int32) (I1 : Nat → Nat → Int32) (J1 : Nat → Nat → Int64), Md 208 7 [.ref 105, .int x0] (fun v => v = .int r) I1 → Q (some (.int r)) (am_N I1 J1)) : am_wp X (d + 6) 99 0 [.ref 0, .int x0, am_uv] [] (am_N I J) Q := by
  refine c_99 hI ⟨fun q => k _ _ _ (fun X d J Q k' => c2_208 ⟨fun _ => k' _ _ _ rfl hI, fun q' => absurd q q'⟩), fun q => ?_⟩
  have hx := hI.ixRep q
  have r40 := am_ix_lt hx
  refine ⟨fun off => k _ _ _ (fun X d J Q k' => c2_208 ⟨fun q' => absurd q' q, fun _ => ⟨⟨hI, hw⟩, fun I3 h3 => ⟨⟨h3.1.2, hx⟩, fun _ => k' _ _ _ rfl h3.1.2, fun z => absurd ?_ z⟩⟩⟩), fun on => ⟨⟨hI, hw, hc⟩, fun I1 J1 h1 => ?_⟩⟩
  · have rb := isRep_lt hI q
    have n0 : ¬ I 132 (Int32.toNatClampNeg x0) = 0 := by
      rw [hI.on rb] at off
      exact off
    rw [bz_0]
    unfold wrb
    rw [(h3.2.2.1.2.1 (Int32.toNatClampNeg x0)).1, decide_eq_false n0]
    rfl
  · have rb := isRep_lt hI q
    have y0 : I 132 (Int32.toNatClampNeg x0) = 0 := by
      rw [hI.on rb] at on
      exact Classical.byContradiction on
    have hI1 : Inv I1 := hI.sm h1.1.sm
    have hw1 : Wf I1 := h1.1.vw.wf hw
    have s1 := h1.1.vw.q hI
    refine ⟨⟨hI1, hw1⟩, fun I2 h2 => ?_⟩
    have v2 : vw I1 I2 := h2.1.wx.vw
    have hI2 : Inv I2 := hI1.sm h2.1.wx.sm
    have hw2 : Wf I2 := v2.wf hw1
    have s2 := v2.q hI1
    have eF1 := fst2_sm hI s1 13824
    have eF2 := fst2_sm hI1 s2 13824
    obtain ⟨hz, -, f5, f⟩ := h1
    obtain ⟨f2, f3, f4⟩ := f.resolve_left (by omega)
    rw [← eF1, ← eF2] at f2 f3 f4
    generalize hG : fst2 I2 13824 = G at f2 f3 f4
    have bd : G.2.1 < 13824 := by rw [← hG]; exact fst2_bd I2
    have tn : tin G.2.2 := by rw [← hG]; exact tin_fst hI2 hw2 13824 (Nat.le_refl _)
    have rb1 : Int32.toNatClampNeg x0 < bk I1 := by rw [s1.1]; exact rb
    have rb2 : Int32.toNatClampNeg x0 < bk I2 := by rw [s2.1]; exact rb1
    have on1 : ¬ I1 (43 + Int32.toNatClampNeg x0) 4 = 0 := by rw [(s1.2 _ rb).1]; exact on
    rw [f2] at h2
    obtain ⟨w1, w2, w3⟩ := h2.2 _ (hI1.lb rb1).1 (hI1.lb rb1).2 on1
    obtain ⟨g1, g2, g3⟩ := (s2.2 _ rb1).2 (Int32.ofInt ((G.2.1 / 24 : Nat) : Int))
    rw [← g1] at w1
    rw [← g2] at w2
    rw [← g3] at w3
    have y2 : I2 132 (Int32.toNatClampNeg x0) = 0 := by rw [h2.1 _ _ (by omega), hz _ _ (by omega) (by omega)]; exact y0
    have e3 : I2 87 3 = Int32.ofInt ((G.2.1 % 24 : Nat) : Int) := (h2.1 87 3 (by omega)).trans f3
    have e4 : I2 87 4 = G.2.2 := (h2.1 87 4 (by omega)).trans f4
    have go : ∀ b : Bool, (tb (q_so I2 (Int32.ofInt ((G.2.1 / 24 : Nat) : Int)) (Int32.toNatClampNeg x0)) (G.2.1 % 24) && (!decide (G.2.2 < q_from I2 (Int32.ofInt ((G.2.1 / 24 : Nat) : Int)) (Int32.toNatClampNeg x0)) && !decide (q_till I2 (Int32.ofInt ((G.2.1 / 24 : Nat) : Int)) (Int32.toNatClampNeg x0) < G.2.2))) = b → Q (some (.int (if b = true then 0 else 1))) (am_N I2 J1) := by
      intro b hb
      refine k _ _ _ (fun X d J Q k' => c2_208 ⟨fun q' => absurd q' ?_, fun _ => ⟨⟨hI2, hw2⟩, fun I3 h3 => ⟨⟨h3.1.2, hx⟩, fun z => k' _ _ _ (congrArg Value.int ?_) h3.1.2, fun z => k' _ _ _ (congrArg Value.int ?_) h3.1.2⟩⟩⟩)
      · rw [isReport_ag (show am_ag I I2 from fun a ha => funext fun j => (h2.1 a j (by omega)).trans (hz a j (by omega) (by omega)))]
        exact q
      · have lg : Lg I2 I3 (gn (G.2.1 / 24) (G.2.1 % 24)) := by
          have := h3.2.2.1
          rw [hG] at this
          unfold gn
          rw [show 24 * (G.2.1 / 24) + G.2.1 % 24 = G.2.1 by omega]
          exact this
        rw [h3.2.1.2, hG, wrong_eq hI2 hw2 (by omega) (by omega) lg tn rb2 y2, hb, bz_0] at z
        cases b with
        | true => rfl
        | false => cases z
      · have lg : Lg I2 I3 (gn (G.2.1 / 24) (G.2.1 % 24)) := by
          have := h3.2.2.1
          rw [hG] at this
          unfold gn
          rw [show 24 * (G.2.1 / 24) + G.2.1 % 24 = G.2.1 by omega]
          exact this
        rw [h3.2.1.2, hG, wrong_eq hI2 hw2 (by omega) (by omega) lg tn rb2 y2, hb, bz_0] at z
        cases b with
        | true => exact absurd rfl z
        | false => rfl
    rw [w1, w2, w3, e3, e4, tb_bit1 _ (by omega)]
    refine ⟨hx, fun a => ⟨hx, fun b => go false ?_, fun b => ⟨hx, fun e => go false ?_, fun e => go true ?_⟩⟩, fun a => go false ?_⟩
    · rw [decide_eq_true b]
      exact Bool.and_false _
    · rw [decide_eq_true e]
      show (_ && (_ && false)) = false
      rw [Bool.and_false, Bool.and_false]
    · rw [a, decide_eq_false b, decide_eq_false e]
      rfl
    · rw [Bool.not_eq_true] at a
      rw [a]
      rfl
