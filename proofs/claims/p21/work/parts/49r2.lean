theorem c2_41 {X : am_X} {d : Nat} {I : Nat → Nat → Int32} {J : Nat → Nat → Int64} {Q : Option Value → am_M → Prop} {x0 : Nat} (hx0 : am_isH x0) (k : am_wp X (d + 2) 41 5 [.ref 83, .ref x0, .int (-9), .int 0, am_uv] [] (am_N I J) Q) : am_wp X (d + 2) 41 0 [.ref 83, .ref x0, am_uv, am_uv, am_uv] [] (am_N I J) Q := s41_0 (s41_2 rfl (s41_3 (s41_4 rfl (k))))
theorem c2_41_5 {X : am_X} {d : Nat} {I : Nat → Nat → Int32} {J : Nat → Nat → Int64} {Q : Option Value → am_M → Prop} {a : Nat} (ha : am_isH a) {o m : Int32} {u4 : Value} (hu4 : u4.category = 1) (k : ((576 ≤ m → Q (some (.int o)) (am_N I J)) ∧ (¬ 576 ≤ m → (am_ix m 576 ∧ ((((I 84 (Int32.toNatClampNeg m)) &&& 5592405) = 0 → am_wp X (d + 2) 41 65 [.ref 83, .ref a, .int o, .int m, .int (v_wayOf ((I a 1) - (v_xOf m)) ((I a 2) - (v_yOf m)))] [] (am_N I J) Q) ∧ (¬ ((I 84 (Int32.toNatClampNeg m)) &&& 5592405) = 0 → ((o = (-9) → am_wp X (d + 2) 41 65 [.ref 83, .ref a, .int (v_wayOf ((I a 1) - (v_xOf m)) ((I a 2) - (v_yOf m))), .int m, .int (v_wayOf ((I a 1) - (v_xOf m)) ((I a 2) - (v_yOf m)))] [] (am_N I J) Q) ∧ (¬ o = (-9) → ((o = (v_wayOf ((I a 1) - (v_xOf m)) ((I a 2) - (v_yOf m))) → am_wp X (d + 2) 41 65 [.ref 83, .ref a, .int (v_wayOf ((I a 1) - (v_xOf m)) ((I a 2) - (v_yOf m))), .int m, .int (v_wayOf ((I a 1) - (v_xOf m)) ((I a 2) - (v_yOf m)))] [] (am_N I J) Q) ∧ (¬ o = (v_wayOf ((I a 1) - (v_xOf m)) ((I a 2) - (v_yOf m))) → Q (some (.int (-9))) (am_N I J))))))))))) : am_wp X (d + 2) 41 5 [.ref 83, .ref a, .int o, .int m, u4] [] (am_N I J) Q := s41_5 (s41_6 (s41_9 (fun h3191 => have k := k.1 h3191; s41_101 (s41_102 (k))) (fun h3191 => have k := k.2 h3191; s41_12 (s41_13 (k0_H ha) (s41_16 (s41_17 (Nat.le_of_ble_eq_true rfl) (w_xOf (am_aft (s41_20 (s41_21 (s41_22 (k0_H ha) (s41_25 (s41_26 (Nat.le_of_ble_eq_true rfl) (w_yOf (am_aft (s41_29 (s41_30 (Nat.le_of_ble_eq_true rfl) (w_wayOf (am_aft (s41_33 rfl (s41_35 (s41_36 k0_83 p0_83_1 (s41_39 (have b3192 := k.1; have k := k.2; s41_40 k0_84 b3192 (s41_41 (s41_43 (s41_44 (fun h3193 => have k := k.1 h3193; k) (fun h3193 => have k := k.2 h3193; s41_47 (s41_48 (s41_50 (fun h3194 => have k := k.1 h3194; s41_62 (s41_64 rfl (k))) (fun h3194 => have k := k.2 h3194; s41_53 (s41_54 (s41_56 (fun h3195 => have k := k.1 h3195; s41_62 (s41_64 rfl (k))) (fun h3195 => have k := k.2 h3195; s41_59 (s41_61 (k))))))))))))))))))))))))))))))))))))
theorem c2_41_65 {X : am_X} {d : Nat} {I : Nat → Nat → Int32} {J : Nat → Nat → Int64} {Q : Option Value → am_M → Prop} {a : Nat} (ha : am_isH a) {o m w : Int32} (k : (am_ix m 576 ∧ ((((I 84 (Int32.toNatClampNeg m)) &&& 11184810) = 0 → am_wp X (d + 2) 41 5 [.ref 83, .ref a, .int o, .int (m + 1), .int w] [] (am_N I J) Q) ∧ (¬ ((I 84 (Int32.toNatClampNeg m)) &&& 11184810) = 0 → ((o = (-9) → am_wp X (d + 2) 41 5 [.ref 83, .ref a, .int 8, .int (m + 1), .int w] [] (am_N I J) Q) ∧ (¬ o = (-9) → ((o = 8 → am_wp X (d + 2) 41 5 [.ref 83, .ref a, .int 8, .int (m + 1), .int w] [] (am_N I J) Q) ∧ (¬ o = 8 → Q (some (.int (-9))) (am_N I J))))))))) : am_wp X (d + 2) 41 65 [.ref 83, .ref a, .int o, .int m, .int w] [] (am_N I J) Q := s41_65 (s41_66 k0_83 p0_83_1 (s41_69 (have b3196 := k.1; have k := k.2; s41_70 k0_84 b3196 (s41_71 (s41_73 (s41_74 (fun h3197 => have k := k.1 h3197; s41_95 rfl (s41_98 (k))) (fun h3197 => have k := k.2 h3197; s41_77 (s41_78 (s41_80 (fun h3198 => have k := k.1 h3198; s41_92 (s41_94 rfl (s41_95 rfl (s41_98 (k))))) (fun h3198 => have k := k.2 h3198; s41_83 (s41_84 (s41_86 (fun h3199 => have k := k.1 h3199; s41_92 (s41_94 rfl (s41_95 rfl (s41_98 (k))))) (fun h3199 => have k := k.2 h3199; s41_89 (s41_91 (k)))))))))))))))
/-! ONE WAY for all that fits -/
def stw (P : Nat → Prop) (W : Nat → Int32) (n o : Int32) : Prop := (o = n ∧ ∀ g, ¬ P g) ∨ (gR o 0 8 ∧ (∀ g, P g → W g = o) ∧ ∃ g, P g)
theorem stw_add {P S P' : Nat → Prop} {W : Nat → Int32} {n o w : Int32} (h : stw P W n o) (hs : ∀ g, S g → W g = w) (he : ∃ g, S g) (hw : gR w 0 8) (ho : o = n ∨ o = w) (hn : ¬ gR n 0 8) (hp : ∀ g, P' g ↔ P g ∨ S g) : stw P' W n w := by
  refine Or.inr ⟨hw, fun g hg => ?_, ?_⟩
  · rcases (hp g).mp hg with q | q
    · rcases h with ⟨h1, h2⟩ | ⟨h1, h2, h3⟩
      · exact absurd q (h2 g)
      · rcases ho with e | e
        · rw [e] at h1
          exact absurd h1 hn
        · rw [h2 g q, e]
    · exact hs g q
  · obtain ⟨g, hg⟩ := he
    exact ⟨g, (hp g).mpr (Or.inr hg)⟩
theorem stw_same {P S P' : Nat → Prop} {W : Nat → Int32} {n o : Int32} (h : stw P W n o) (hs : ∀ g, ¬ S g) (hp : ∀ g, P' g ↔ P g ∨ S g) : stw P' W n o := by
  have e : ∀ g, P' g ↔ P g := fun g => (hp g).trans ⟨fun q => q.resolve_right (hs g), Or.inl⟩
  rcases h with ⟨h1, h2⟩ | ⟨h1, h2, g, h3⟩
  · exact Or.inl ⟨h1, fun g q => h2 g ((e g).mp q)⟩
  · exact Or.inr ⟨h1, fun g q => h2 g ((e g).mp q), g, (e g).mpr h3⟩
theorem stw_no {P : Nat → Prop} {W : Nat → Int32} {n o : Int32} (h : stw P W n o) (ho : ¬ o = n) : ∃ g, P g ∧ W g = o := by
  rcases h with ⟨h1, h2⟩ | ⟨h1, h2, g, h3⟩
  · exact absurd h1 ho
  · exact ⟨g, h3, h2 g h3⟩
def gfs (I : Nat → Nat → Int32) (g : Nat) : Prop := g < 13824 ∧ gfn I g = true
def gwy (I : Nat → Nat → Int32) (h : Nat) (g : Nat) : Int32 := g_way I (Int32.ofInt (g : Int)) h
/-- the answer, by what it is -/
def wans (I : Nat → Nat → Int32) (h : Nat) (n r : Int32) : Prop := stw (gfs I) (gwy I h) n r ∨ (r = -9 ∧ ∃ g g', gfs I g ∧ gfs I g' ∧ ¬ gwy I h g = gwy I h g')
theorem wans_one {I : Nat → Nat → Int32} {h : Nat} {n n' r r' : Int32} (h1 : wans I h n r) (h2 : wans I h n' r') (he : ∃ g, gfs I g) : r = r' := by
  obtain ⟨g0, hg0⟩ := he
  rcases h1 with (⟨-, q⟩ | ⟨-, q, -⟩) | ⟨e, g, g', p1, p2, p3⟩
  · exact absurd hg0 (q g0)
  · rcases h2 with (⟨-, q'⟩ | ⟨-, q', -⟩) | ⟨e', g, g', p1, p2, p3⟩
    · exact absurd hg0 (q' g0)
    · rw [← q g0 hg0, ← q' g0 hg0]
    · exact absurd ((q g p1).trans (q g' p2).symm) p3
  · rcases h2 with (⟨-, q'⟩ | ⟨-, q', -⟩) | ⟨e', -⟩
    · exact absurd hg0 (q' g0)
    · exact absurd ((q' g p1).trans (q' g' p2).symm) p3
    · rw [e, e']
def p41 (I : Nat → Nat → Int32) : Prop := Inv I ∧ Wf I ∧ ∀ c, c < 576 → I 84 c = fbit I c
theorem lev_nz {x : Int32} (hx : M24 x) : ¬ x &&& 5592405 = 0 ↔ ∃ i, i < 24 ∧ i % 2 = 0 ∧ tb x i = true := by
  rw [hx.andl.nz]
  refine ⟨fun ⟨i, h1, h2⟩ => ?_, fun ⟨i, h1, h2, h3⟩ => ⟨i, h1, ?_⟩⟩
  · rw [tb_and, tb_lev, Bool.and_eq_true] at h2
    exact ⟨i, h1, (of_decide_eq_true h2.2).2, h2.1⟩
  · rw [tb_and, tb_lev, h3, decide_eq_true ⟨h1, h2⟩]
    rfl
theorem upr_nz {x : Int32} (hx : M24 x) : ¬ x &&& 11184810 = 0 ↔ ∃ i, i < 24 ∧ i % 2 = 1 ∧ tb x i = true := by
  rw [hx.andl.nz]
  refine ⟨fun ⟨i, h1, h2⟩ => ?_, fun ⟨i, h1, h2, h3⟩ => ⟨i, h1, ?_⟩⟩
  · rw [tb_and, tb_upr, Bool.and_eq_true] at h2
    exact ⟨i, h1, (of_decide_eq_true h2.2).2, h2.1⟩
  · rw [tb_and, tb_upr, h3, decide_eq_true ⟨h1, h2⟩]
    rfl
theorem w_41 {X : am_X} {d : Nat} {I : Nat → Nat → Int32} {J : Nat → Nat → Int64} {Q : Option Value → am_M → Prop} {h : Nat} (hh : h < 8) (hp : p41 I) (k : ∀ r : Int32, wans I h (-9) r → Q (some (.int r)) (am_N I J)) : am_wp X (d + 2) 41 0 [.ref 83, .ref (3 + 4 * h), am_uv, am_uv, am_uv] [] (am_N I J) Q := by
  obtain ⟨hI, hw, h84⟩ := hp
  have ha : am_isH (3 + 4 * h) := ⟨h, hh, rfl⟩
  have n9' : ¬ gR (-9) 0 8 := by
    rintro ⟨z, z1, z2, e⟩
    have := (oi_eq (a := -9) (b := z) (by omega) (by omega)).mp ((show Int32.ofInt (-9) = -9 by decide).trans e)
    omega
  -- ways of a cell's guesses
  have wy : ∀ c i, c < 576 → i < 24 → gwy I h (24 * c + i) = if i % 2 = 1 then 8 else q_way I (Int32.ofInt (c : Int)) h := fun c i hc hi => (far_eq hI hc hi hh).2.2.1
  have ft : ∀ c i, c < 576 → i < 24 → (gfs I (24 * c + i) ↔ tb (I 84 c) i = true) := by
    intro c i hc hi
    unfold gfs
    rw [h84 c hc, bit_fn hI hw hc hi]
    exact ⟨fun q => q.2, fun q => ⟨by omega, q⟩⟩
  refine c2_41 ha ?_
  refine am_down (N := 576) (P := fun m => ∀ (o : Int32) (u4 : Value), u4.category = 1 → stw (fun g => g < 24 * m ∧ gfs I g) (gwy I h) (-9) o → am_wp X (d + 2) 41 5 [.ref 83, .ref (3 + 4 * h), .int o, .int (Int32.ofInt (m : Int)), u4] [] (am_N I J) Q) ?_ ?_ 0 (by omega) (-9) am_uv rfl (Or.inl ⟨rfl, fun g q => absurd q.1 (by omega)⟩)
  · intro o u4 h4 hs
    refine c2_41_5 ha h4 ⟨fun _ => k o (Or.inl ?_), fun q => absurd (by decide) q⟩
    exact stw_same (S := fun _ => False) hs (fun _ q => q) (fun g => ⟨fun q => Or.inl ⟨by have := q.1; omega, q⟩, fun q => q.elim (fun w => w.2) (fun w => w.elim)⟩)
  · intro m hm ih o u4 h4 hs
    have ix : am_ix (Int32.ofInt (m : Int)) 576 := oi_ix (by omega) (by omega) (by omega)
    have hM : M24 (I 84 m) := by rw [h84 m hm]; exact M24.ft
    have g8 : gR (q_way I (Int32.ofInt (m : Int)) h) 0 8 := way_gR
    have g88 : gR (8 : Int32) 0 8 := ⟨8, by decide, by decide, rfl⟩
    -- the halves
    have up : ∀ (o : Int32) (w : Int32), stw (fun g => (g < 24 * m ∧ gfs I g) ∨ (∃ i, i < 24 ∧ i % 2 = 0 ∧ g = 24 * m + i ∧ gfs I g)) (gwy I h) (-9) o → am_wp X (d + 2) 41 65 [.ref 83, .ref (3 + 4 * h), .int o, .int (Int32.ofInt (m : Int)), .int w] [] (am_N I J) Q := by
      intro o w hs
      have pp : ∀ g, (g < 24 * (m + 1) ∧ gfs I g) ↔ ((g < 24 * m ∧ gfs I g) ∨ (∃ i, i < 24 ∧ i % 2 = 0 ∧ g = 24 * m + i ∧ gfs I g)) ∨ (∃ i, i < 24 ∧ i % 2 = 1 ∧ g = 24 * m + i ∧ gfs I g) := by
        intro g
        refine ⟨fun ⟨q1, q2⟩ => ?_, fun q => ?_⟩
        · by_cases hg : g < 24 * m
          · exact Or.inl (Or.inl ⟨hg, q2⟩)
          · by_cases h2 : (g - 24 * m) % 2 = 0
            · exact Or.inl (Or.inr ⟨g - 24 * m, by omega, h2, by omega, q2⟩)
            · exact Or.inr ⟨g - 24 * m, by omega, by omega, by omega, q2⟩
        · rcases q with (⟨q1, q2⟩ | ⟨i, i1, i2, i3, i4⟩) | ⟨i, i1, i2, i3, i4⟩
          · exact ⟨by omega, q2⟩
          · exact ⟨by omega, i4⟩
          · exact ⟨by omega, i4⟩
      have sw : ∀ g, (∃ i, i < 24 ∧ i % 2 = 1 ∧ g = 24 * m + i ∧ gfs I g) → gwy I h g = 8 := by
        rintro g ⟨i, i1, i2, rfl, i4⟩
        rw [wy m i hm i1, if_pos i2]
      refine c2_41_65 ha ⟨ix, fun z => ?_, fun z => ?_⟩
      · rw [oi_cln (by omega)] at z
        rw [oi_succ]
        refine ih _ _ rfl (stw_same hs (fun g q => ?_) pp)
        obtain ⟨i, i1, i2, rfl, i4⟩ := q
        exact (upr_nz hM).mpr ⟨i, i1, i2, (ft m i hm i1).mp i4⟩ z
      · rw [oi_cln (by omega)] at z
        obtain ⟨i, i1, i2, i3⟩ := (upr_nz hM).mp z
        have se : ∃ g, ∃ i, i < 24 ∧ i % 2 = 1 ∧ g = 24 * m + i ∧ gfs I g := ⟨24 * m + i, i, i1, i2, rfl, (ft m i hm i1).mpr i3⟩
        rw [oi_succ]
        refine ⟨fun e => ih _ _ rfl (stw_add hs sw se g88 (Or.inl e) n9' pp), fun e => ⟨fun e8 => ih _ _ rfl (stw_add hs sw se g88 (Or.inr e8) n9' pp), fun e8 => ?_⟩⟩
        obtain ⟨g, g1, g2⟩ := stw_no hs e
        refine k _ (Or.inr ⟨rfl, g, 24 * m + i, ?_, (ft m i hm i1).mpr i3, ?_⟩)
        · rcases g1 with q | ⟨_, _, _, _, q⟩
          · exact q.2
          · exact q
        · rw [g2, wy m i hm i1, if_pos i2]
          exact e8
    have sw : ∀ g, (∃ i, i < 24 ∧ i % 2 = 0 ∧ g = 24 * m + i ∧ gfs I g) → gwy I h g = q_way I (Int32.ofInt (m : Int)) h := by
      rintro g ⟨i, i1, i2, rfl, i4⟩
      rw [wy m i hm i1, if_neg (by omega)]
    refine c2_41_5 ha h4 ⟨fun q => absurd q (by rw [show (576 : Int32) = Int32.ofInt 576 from rfl, oi_le (by omega) (by omega)]; omega), fun _ => ⟨ix, fun z => ?_, fun z => ?_⟩⟩
    · rw [oi_cln (by omega)] at z
      refine up _ _ (stw_same hs (fun g q => ?_) (fun _ => Iff.rfl))
      obtain ⟨i, i1, i2, rfl, i4⟩ := q
      exact (lev_nz hM).mpr ⟨i, i1, i2, (ft m i hm i1).mp i4⟩ z
    · rw [oi_cln (by omega)] at z
      obtain ⟨i, i1, i2, i3⟩ := (lev_nz hM).mp z
      have se : ∃ g, ∃ i, i < 24 ∧ i % 2 = 0 ∧ g = 24 * m + i ∧ gfs I g := ⟨24 * m + i, i, i1, i2, rfl, (ft m i hm i1).mpr i3⟩
      refine ⟨fun e => up _ _ (stw_add hs sw se g8 (Or.inl e) n9' (fun _ => Iff.rfl)), fun e => ⟨fun e8 => up _ _ (stw_add hs sw se g8 (Or.inr e8) n9' (fun _ => Iff.rfl)), fun e8 => ?_⟩⟩
      obtain ⟨g, g1, g2⟩ := stw_no hs e
      refine k _ (Or.inr ⟨rfl, g, 24 * m + i, g1.2, (ft m i hm i1).mpr i3, ?_⟩)
      rw [g2, wy m i hm i1, if_neg (by omega)]
      exact e8
theorem c_97 {X : am_X} {d : Nat} {I : Nat → Nat → Int32} {J : Nat → Nat → Int64} {Q : Option Value → am_M → Prop} {x0 : Int32} (hI : Inv I) (k : (((v_isHouse I x0) = 0 → Q (some (.int (-1))) (am_N I J)) ∧ (¬ (v_isHouse I x0) = 0 → ((Inv I ∧ Wf I ∧ Cf I) ∧ ∀ (I3201 : Nat → Nat → Int32), fk I I3201 → (((I3201 83 4) = 0 → Q (some (.int (-3))) (am_N I3201 J)) ∧ (¬ (I3201 83 4) = 0 → (p41 I3201 ∧ ∀ r3203 : Int32, wans I3201 (Int32.toNatClampNeg x0) (-9) r3203 → Q (some (.int r3203)) (am_N I3201 J)))))))) : am_wp X (d + 6) 97 0 [.ref 0, .int x0, am_uv] [] (am_N I J) Q := s97_0 (s97_1 k0_0 p0_0_0 (s97_4 (s97_5 k0_1 (Nat.le_of_ble_eq_true rfl) (w_find hI (fun h => have k := k.1 h; am_aft (s97_8n rfl (s97_9n (s97_10n (s97_13 (s97_14 (k))))))) (fun h => have b3200 := hI.ixHs h; have k := k.2 h; am_aft (s97_8 rfl (s97_9 (s97_10 (s97_15 (s97_16 k0_0 p0_0_2 (s97_19 k0_83 (Nat.le_of_ble_eq_true rfl) (w_36f k.1.1 k.1.2.1 k.1.2.2 (fun I3201 h1 => have k := k.2 I3201 h1; am_aft0 (s97_22 (s97_23 k0_0 p0_0_2 (s97_26 k0_83 (s97_29 (fun h3202 => have k := k.1 h3202; s97_32 (s97_34 (s97_45 (k)))) (fun h3202 => have k := k.2 h3202; s97_37 (s97_38 k0_0 p0_0_2 (s97_41 (s97_42 k0_83 (Nat.le_of_ble_eq_true rfl) (w_41 (am_ix_lt (hI.ixHs (by assumption))) k.1 (fun r3203 h1 => have k := k.2 r3203 h1; am_aft (s97_45 (k)))))))))))))))))))))))))
theorem c2_200 {X : am_X} {d : Nat} {I : Nat → Nat → Int32} {J : Nat → Nat → Int64} {Q : Option Value → am_M → Prop} {x0 : Int32} (k : (((v_isHouse I x0) = 0 → Q (some (.int (-1))) (am_N I J)) ∧ (¬ (v_isHouse I x0) = 0 → ((Inv I ∧ Wf I) ∧ ∀ (I3205 : Nat → Nat → Int32), fl I I3205 → (((I3205 105 43) = 0 → Q (some (.int (-3))) (am_N I3205 J)) ∧ (¬ (I3205 105 43) = 0 → am_wp X (d + 5) 200 28 [.ref 105, .int x0, .int (-1), .int 0, am_uv] [] (am_N I3205 J) Q)))))) : am_wp X (d + 5) 200 0 [.ref 105, .int x0, am_uv, am_uv, am_uv] [] (am_N I J) Q := s200_0 (s200_1 (s200_2 k0_105 (Nat.le_of_ble_eq_true rfl) (w_isHouse (am_aft (s200_5 (fun h3204 => have k := k.1 h3204; s200_8 (s200_9 (k))) (fun h3204 => have k := k.2 h3204; s200_10 (s200_11 k0_105 (Nat.le_of_ble_eq_true rfl) (w_195 k.1.1 k.1.2 (fun I3205 h1 => have k := k.2 I3205 h1; am_aft0 (s200_14 (s200_15 k0_105 (s200_18 (fun h3206 => have k := k.1 h3206; s200_21 (s200_23 (k))) (fun h3206 => have k := k.2 h3206; s200_24 (s200_25 rfl (s200_26 (s200_27 rfl (k)))))))))))))))))
theorem c2_200_28 {X : am_X} {d : Nat} {I : Nat → Nat → Int32} {J : Nat → Nat → Int64} {Q : Option Value → am_M → Prop} {x0 f m : Int32} {u4 : Value} (hu4 : u4.category = 1) (k : (((I 105 43) ≤ m → Q (some (.int f)) (am_N I J)) ∧ (¬ (I 105 43) ≤ m → (am_ix m 13824 ∧ (am_ix x0 8 ∧ (am_ix x0 8 ∧ ((f < 0 → am_wp X (d + 5) 200 28 [.ref 105, .int x0, .int (v_m_wayOf ((I 107 (Int32.toNatClampNeg x0)) - ((m_lay I (I 136 (Int32.toNatClampNeg m))) 105 32)) ((I 108 (Int32.toNatClampNeg x0)) - ((m_lay I (I 136 (Int32.toNatClampNeg m))) 105 33)) ((m_lay I (I 136 (Int32.toNatClampNeg m))) 105 36)), .int (m + 1), .int (v_m_wayOf ((I 107 (Int32.toNatClampNeg x0)) - ((m_lay I (I 136 (Int32.toNatClampNeg m))) 105 32)) ((I 108 (Int32.toNatClampNeg x0)) - ((m_lay I (I 136 (Int32.toNatClampNeg m))) 105 33)) ((m_lay I (I 136 (Int32.toNatClampNeg m))) 105 36))] [] (am_N (m_lay I (I 136 (Int32.toNatClampNeg m))) J) Q) ∧ (¬ f < 0 → ((f = (v_m_wayOf ((I 107 (Int32.toNatClampNeg x0)) - ((m_lay I (I 136 (Int32.toNatClampNeg m))) 105 32)) ((I 108 (Int32.toNatClampNeg x0)) - ((m_lay I (I 136 (Int32.toNatClampNeg m))) 105 33)) ((m_lay I (I 136 (Int32.toNatClampNeg m))) 105 36)) → am_wp X (d + 5) 200 28 [.ref 105, .int x0, .int (v_m_wayOf ((I 107 (Int32.toNatClampNeg x0)) - ((m_lay I (I 136 (Int32.toNatClampNeg m))) 105 32)) ((I 108 (Int32.toNatClampNeg x0)) - ((m_lay I (I 136 (Int32.toNatClampNeg m))) 105 33)) ((m_lay I (I 136 (Int32.toNatClampNeg m))) 105 36)), .int (m + 1), .int (v_m_wayOf ((I 107 (Int32.toNatClampNeg x0)) - ((m_lay I (I 136 (Int32.toNatClampNeg m))) 105 32)) ((I 108 (Int32.toNatClampNeg x0)) - ((m_lay I (I 136 (Int32.toNatClampNeg m))) 105 33)) ((m_lay I (I 136 (Int32.toNatClampNeg m))) 105 36))] [] (am_N (m_lay I (I 136 (Int32.toNatClampNeg m))) J) Q) ∧ (¬ f = (v_m_wayOf ((I 107 (Int32.toNatClampNeg x0)) - ((m_lay I (I 136 (Int32.toNatClampNeg m))) 105 32)) ((I 108 (Int32.toNatClampNeg x0)) - ((m_lay I (I 136 (Int32.toNatClampNeg m))) 105 33)) ((m_lay I (I 136 (Int32.toNatClampNeg m))) 105 36)) → Q (some (.int (-9))) (am_N (m_lay I (I 136 (Int32.toNatClampNeg m))) J))))))))))) : am_wp X (d + 5) 200 28 [.ref 105, .int x0, .int f, .int m, u4] [] (am_N I J) Q := s200_28 (s200_29 (s200_30 k0_105 (s200_33 (fun h3207 => have k := k.1 h3207; s200_99 (s200_100 (k))) (fun h3207 => have k := k.2 h3207; s200_36 (s200_37 (s200_38 k0_105 p0_105_42 (s200_41 (have b3208 := k.1; have k := k.2; s200_42 k0_136 b3208 (s200_43 k0_105 (Nat.le_of_ble_eq_true rfl) (w_lay (am_aft0 (s200_46 (s200_47 k0_105 p0_105_4 (s200_50 (have b3209 := k.1; have k := k.2; s200_51 k0_107 b3209 (s200_52 (s200_53 k0_105 (s200_56 (s200_57 (s200_58 k0_105 p0_105_5 (s200_61 (have b3210 := k.1; have k := k.2; s200_62 k0_108 b3210 (s200_63 (s200_64 k0_105 (s200_67 (s200_68 (s200_69 k0_105 (s200_72 (Nat.le_of_ble_eq_true rfl) (w_m_wayOf (am_aft (s200_75 rfl (s200_77 (s200_78 (fun h3211 => have k := k.1 h3211; s200_90 (s200_92 rfl (s200_93 rfl (s200_96 (k))))) (fun h3211 => have k := k.2 h3211; s200_81 (s200_82 (s200_84 (fun h3212 => have k := k.1 h3212; s200_90 (s200_92 rfl (s200_93 rfl (s200_96 (k))))) (fun h3212 => have k := k.2 h3212; s200_87 (s200_89 (k)))))))))))))))))))))))))))))))))))))))
theorem cgn_split (I : Nat → Nat → Int32) {n : Nat} : ∀ M, n < cgn I M → ∃ g, g < M ∧ gfn I g = true ∧ cgn I g = n := by
  intro M
  induction M with
  | zero => intro h; exact absurd h (by show ¬ n < 0; omega)
  | succ M ih =>
    intro h
    by_cases hn : n < cgn I M
    · obtain ⟨g, g1, g2, g3⟩ := ih hn
      exact ⟨g, by omega, g2, g3⟩
    · have h : n < cgn I M + (if gfn I M = true then 1 else 0) := h
      by_cases ht : gfn I M = true
      · rw [if_pos ht] at h
        exact ⟨M, by omega, ht, by omega⟩
      · rw [if_neg ht] at h
        omega
theorem cgn_inj (I : Nat → Nat → Int32) {a b : Nat} (ha : gfn I a = true) (hb : gfn I b = true) (h : cgn I a = cgn I b) : a = b := by
  rcases Nat.lt_trichotomy a b with q | q | q
  · have := cgn_lt I q ha
    omega
  · exact q
  · have := cgn_lt I q hb
    omega
/-- the reference's guess is laid anew -/
def ly (I I' : Nat → Nat → Int32) : Prop := ∀ a k, ¬ (a = 105 ∧ 32 ≤ k ∧ k ≤ 36) → I' a k = I a k
theorem ly.rf {I : Nat → Nat → Int32} : ly I I := fun _ _ _ => rfl
theorem ly.lay {I I' : Nat → Nat → Int32} (h : ly I I') (g : Int32) : ly I (m_lay I' g) := fun a k q => ((lay_at I' g).2 a k q).trans (h a k q)
theorem w_200l {X : am_X} {d : Nat} {I0 I : Nat → Nat → Int32} {J : Nat → Nat → Int64} {Q : Option Value → am_M → Prop} {x0 : Int32} (hx : am_ix x0 8) (hI0 : Inv I0) (hf : fl I0 I) (k : ∀ (r : Int32) (I' : Nat → Nat → Int32), Inv I' → wans I0 (Int32.toNatClampNeg x0) (-1) r → Q (some (.int r)) (am_N I' J)) : am_wp X (d + 5) 200 28 [.ref 105, .int x0, .int (-1), .int 0, am_uv] [] (am_N I J) Q := by
  obtain ⟨⟨hg, hi⟩, h43, h136, -, -⟩ := hf
  have n1' : ¬ gR (-1) 0 8 := by
    rintro ⟨z, z1, z2, e⟩
    have := (oi_eq (a := -1) (b := z) (by omega) (by omega)).mp ((show Int32.ofInt (-1) = -1 by decide).trans e)
    omega
  have lM := cgn_le I0 13824
  refine am_down (N := cgn I0 13824) (P := fun m => ∀ (f : Int32) (u4 : Value) (I' : Nat → Nat → Int32), u4.category = 1 → ly I I' → Inv I' → stw (fun g => gfs I0 g ∧ cgn I0 g < m) (gwy I0 (Int32.toNatClampNeg x0)) (-1) f → am_wp X (d + 5) 200 28 [.ref 105, .int x0, .int f, .int (Int32.ofInt (m : Int)), u4] [] (am_N I' J) Q) ?_ ?_ 0 (by omega) (-1) am_uv I rfl ly.rf hi (Or.inl ⟨rfl, fun g q => absurd q.2 (by omega)⟩)
  · intro f u4 I' h4 hs hi' hst
    refine c2_200_28 h4 ⟨fun _ => k f I' hi' (Or.inl ?_), fun q => absurd (by rw [hs 105 43 (by omega), h43]; exact Int32.le_refl _) q⟩
    exact stw_same (S := fun _ => False) hst (fun _ q => q) (fun g => ⟨fun q => Or.inl ⟨q, cgn_lt I0 q.1 q.2⟩, fun q => q.elim (fun w => w.1) (fun w => w.elim)⟩)
  · intro m hm ih f u4 I' h4 hs hi' hst
    obtain ⟨g, g1, g2, g3⟩ := cgn_split I0 13824 hm
    have e136 : I' 136 m = Int32.ofInt (g : Int) := by
      rw [hs 136 m (by omega), ← g3]
      exact h136 g g1 g2
    have hgR : gR (Int32.ofInt (g : Int)) 0 13823 := ⟨g, by omega, by omega, rfl⟩
    obtain ⟨⟨z1, z2, z3, z4, z5⟩, zr⟩ := lay_at I' (Int32.ofInt (g : Int))
    have ew : v_m_wayOf (I' 107 (Int32.toNatClampNeg x0) - gX (Int32.ofInt (g : Int))) (I' 108 (Int32.toNatClampNeg x0) - gY (Int32.ofInt (g : Int))) (gD (Int32.ofInt (g : Int))) = gwy I0 (Int32.toNatClampNeg x0) g := by
      rw [hs 107 _ (by omega), hs 108 _ (by omega), hg 107 _ (by omega) (by omega), hg 108 _ (by omega) (by omega)]
      rfl
    have gw : gR (gwy I0 (Int32.toNatClampNeg x0) g) 0 8 := by
      obtain ⟨c, i, c1, i1, e⟩ := g_split g1
      have hx8 := am_ix_lt hx
      unfold gwy
      rw [e, (far_eq hI0 c1 i1 hx8).2.2.1]
      split
      · exact ⟨8, by decide, by decide, rfl⟩
      · exact way_gR
    have pp : ∀ q, (gfs I0 q ∧ cgn I0 q < m + 1) ↔ (gfs I0 q ∧ cgn I0 q < m) ∨ q = g := by
      intro q
      refine ⟨fun ⟨p1, p2⟩ => ?_, fun p => ?_⟩
      · by_cases h : cgn I0 q < m
        · exact Or.inl ⟨p1, h⟩
        · exact Or.inr (cgn_inj I0 p1.2 g2 (by omega))
      · rcases p with p | p
        · exact ⟨p.1, by omega⟩
        · rw [p]
          exact ⟨⟨g1, g2⟩, by omega⟩
    have ix : am_ix (Int32.ofInt (m : Int)) 13824 := oi_ix (by omega) (by omega) (by omega)
    refine c2_200_28 h4 ⟨fun q => absurd q (by rw [hs 105 43 (by omega), h43, oi_le (by omega) (by omega)]; omega), fun _ => ⟨ix, hx, hx, ?_⟩⟩
    rw [oi_cln (by omega), e136, z1, z2, z5, ew, oi_succ]
    have go := fun (ho : f = -1 ∨ f = gwy I0 (Int32.toNatClampNeg x0) g) => ih (gwy I0 (Int32.toNatClampNeg x0) g) (.int (gwy I0 (Int32.toNatClampNeg x0) g)) _ rfl (hs.lay (Int32.ofInt (g : Int))) (hi'.lay hgR) (stw_add (S := fun q => q = g) hst (fun q hq => by rw [hq]) ⟨g, rfl⟩ gw ho n1' pp)
    have neg : f < 0 → f = -1 := by
      intro q
      rcases hst with ⟨e, -⟩ | ⟨⟨z, w1, w2, e⟩, -⟩
      · exact e
      · have q : f < Int32.ofInt 0 := q
        rw [e, oi_lt (by omega) (by omega)] at q
        omega
    refine ⟨fun q => go (Or.inl (neg q)), fun q => ⟨fun e => go (Or.inr e), fun e => ?_⟩⟩
    have nf : ¬ f = -1 := fun w => q (by rw [w]; decide)
    obtain ⟨q, q1, q2⟩ := stw_no hst nf
    refine k _ _ (hi'.lay hgR) (Or.inr ⟨rfl, q, g, q1.1, ⟨g1, g2⟩, ?_⟩)
    rw [q2]
    exact e
theorem e_97 {X : am_X} {d : Nat} {I : Nat → Nat → Int32} {J : Nat → Nat → Int64} {Q : Option Value → am_M → Prop} {x0 : Int32} (hI : Inv I) (hw : Wf I) (hc : Cf I) (k : ∀ (r : Int32) (I1 : Nat → Nat → Int32) (J1 : Nat → Nat → Int64), Md 200 5 [.ref 105, .int x0, am_uv, am_uv, am_uv] (fun v => v = .int r) I1 → Q (some (.int r)) (am_N I1 J1)) : am_wp X (d + 6) 97 0 [.ref 0, .int x0, am_uv] [] (am_N I J) Q := by
  refine c_97 hI ⟨fun h => k _ _ _ (fun X d J Q k' => c2_200 ⟨fun _ => k' _ _ _ rfl hI, fun h' => absurd h h'⟩), fun hh => ⟨⟨hI, hw, hc⟩, fun I1 h1 => ?_⟩⟩
  have hI1 : Inv I1 := hI.sm h1.1.1.sm
  have hw1 := h1.v.wf hw
  have sq := h1.v.q hI
  have hx := hI.ixHs hh
  have hh1 : ¬ v_isHouse I1 x0 = 0 := by
    rw [isHouse_ag h1.ag]
    exact hh
  have e43 : ∀ I2, fl I1 I2 → I2 105 43 = I1 83 4 := fun I2 h2 => many_fit hI hw h1 h2
  refine ⟨fun z => k _ _ _ (fun X d J Q k' => c2_200 ⟨fun h' => absurd h' hh1, fun _ => ⟨⟨hI1, hw1⟩, fun I2 h2 => ⟨fun _ => k' _ _ _ rfl h2.1.2, fun z' => absurd (by rw [e43 I2 h2]; exact z) z'⟩⟩⟩), fun z => ⟨⟨hI1, hw1, fun c hc => (h1.2.1 c hc).trans (sq.bit c).symm⟩, fun r hr => ?_⟩⟩
  refine k _ _ _ (fun X d J Q k' => c2_200 ⟨fun h' => absurd h' hh1, fun _ => ⟨⟨hI1, hw1⟩, fun I2 h2 => ⟨fun z' => absurd (by rw [← e43 I2 h2]; exact z') z, fun _ => ?_⟩⟩⟩)
  refine w_200l hx hI1 h2 (fun r' I' hi' hr' => k' _ _ _ ?_ hi')
  have ne : ∃ g, gfs I1 g := by
    have lf := cgn_le I1 13824
    have e := h2.2.1
    rw [e43 I2 h2] at e
    have : 0 < cgn I1 13824 := by
      rcases Nat.eq_zero_or_pos (cgn I1 13824) with q | q
      · rw [q] at e
        exact absurd e z
      · exact q
    obtain ⟨g, g1, g2, -⟩ := cgn_split I1 13824 this
    exact ⟨g, g1, g2⟩
  exact congrArg Value.int (wans_one hr' hr ne)
