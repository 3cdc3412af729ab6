theorem c_213 {X : am_X} {d : Nat} {I : Nat → Nat → Int32} {J : Nat → Nat → Int64} {Q : Option Value → am_M → Prop} {x0 : Int32} (k : (((v_isReport I x0) = 0 → Q (some (.int (-1))) (am_N I J)) ∧ (¬ (v_isReport I x0) = 0 → (am_ix x0 40 ∧ (((I 132 (Int32.toNatClampNeg x0)) = 0 → (am_ix x0 40 ∧ (((I 128 (Int32.toNatClampNeg x0)) = 0 → (am_ix x0 40 ∧ ((0 ≤ (I 131 (Int32.toNatClampNeg x0)) → (am_ix x0 40 ∧ am_wp X (d + 4) 213 49 [.ref 105, .int x0, .int (I 129 (Int32.toNatClampNeg x0)), .int 0] [] (am_N I J) Q)) ∧ (¬ 0 ≤ (I 131 (Int32.toNatClampNeg x0)) → Q (some (.int (-3))) (am_N I J))))) ∧ (¬ (I 128 (Int32.toNatClampNeg x0)) = 0 → Q (some (.int (-3))) (am_N I J))))) ∧ (¬ (I 132 (Int32.toNatClampNeg x0)) = 0 → Q (some (.int (-3))) (am_N I J))))))) : am_wp X (d + 4) 213 0 [.ref 105, .int x0, am_uv, am_uv] [] (am_N I J) Q := s213_0 (s213_1 (s213_2 k0_105 (Nat.le_of_ble_eq_true rfl) (w_isReport (am_aft (s213_5 (fun h3141 => have k := k.1 h3141; s213_8 (s213_9 (k))) (fun h3141 => have k := k.2 h3141; s213_10 (s213_11 k0_105 p0_105_31 (s213_14 (have b3142 := k.1; have k := k.2; s213_15 k0_132 b3142 (s213_16 (fun h3143 => have k := k.1 h3143; s213_19 (s213_20 k0_105 p0_105_27 (s213_23 (have b3144 := k.1; have k := k.2; s213_24 k0_128 b3144 (s213_25 (fun h3145 => have k := k.1 h3145; s213_28 (s213_29 k0_105 p0_105_30 (s213_32 (have b3146 := k.1; have k := k.2; s213_33 k0_131 b3146 (s213_34 (fun h3147 => have k := k.1 h3147; s213_40 (s213_41 k0_105 p0_105_28 (s213_44 (have b3148 := k.1; have k := k.2; s213_45 k0_129 b3148 (s213_46 rfl (s213_47 (s213_48 rfl (k)))))))) (fun h3147 => have k := k.2 h3147; s213_37 (s213_39 (k)))))))) (fun h3145 => have k := k.2 h3145; s213_37 (s213_39 (k)))))))) (fun h3143 => have k := k.2 h3143; s213_37 (s213_39 (k)))))))))))))
theorem c_213_49 {X : am_X} {d : Nat} {I : Nat → Nat → Int32} {J : Nat → Nat → Int64} {Q : Option Value → am_M → Prop} {x0 x1 m : Int32} (k : ((13824 ≤ m → Q (some (.int 1)) (am_N I J)) ∧ (¬ 13824 ≤ m → ((Inv I ∧ Wf I ∧ gR m 0 13823) ∧ ∀ (I3150 : Nat → Nat → Int32), gl I I3150 m → (g_all I m (gA I x1 (-9)) = true → I3150 105 40 = g_E I m (gA I x1 (-9)) ∧ I3150 105 41 = g_L I m (gA I x1 (-9))) → (((bz (g_fit I m (gA I x1 (-9)))) = 0 → am_wp X (d + 4) 213 49 [.ref 105, .int x0, .int x1, .int (m + 1)] [] (am_N I3150 J) Q) ∧ (¬ (bz (g_fit I m (gA I x1 (-9)))) = 0 → (Inv I3150 ∧ (((bz (ga (rr_is I3150) (gQ I3150 x1) (bk I3150))) = 0 → am_wp X (d + 4) 213 49 [.ref 105, .int x0, .int x1, .int (m + 1)] [] (am_N I3150 J) Q) ∧ (¬ (bz (ga (rr_is I3150) (gQ I3150 x1) (bk I3150))) = 0 → Q (some (.int 0)) (am_N I3150 J)))))))))) : am_wp X (d + 4) 213 49 [.ref 105, .int x0, .int x1, .int m] [] (am_N I J) Q := s213_49 (s213_50 (s213_53 (fun h3149 => have k := k.1 h3149; s213_83 (s213_84 (k))) (fun h3149 => have k := k.2 h3149; s213_56 (s213_57 (s213_58 (s213_59 (s213_61 k0_105 (Nat.le_of_ble_eq_true rfl) (w_194 k.1.1 k.1.2.1 k.1.2.2 (fun I3150 h1 h2 => have k := k.2 I3150 h1 h2; am_aft (s213_64 (fun h3151 => have k := k.1 h3151; s213_77 rfl (s213_80 (k))) (fun h3151 => have k := k.2 h3151; s213_67 (s213_68 (s213_69 k0_105 (Nat.le_of_ble_eq_true rfl) (w_212 k.1 (have k := k.2; am_aft (s213_72 (fun h3152 => have k := k.1 h3152; s213_77 rfl (s213_80 (k))) (fun h3152 => have k := k.2 h3152; s213_75 (s213_76 (k)))))))))))))))))))
theorem c_101 {X : am_X} {d : Nat} {I : Nat → Nat → Int32} {J : Nat → Nat → Int64} {Q : Option Value → am_M → Prop} {x0 : Int32} (hI : Inv I) (k : (((v_isReport I x0) = 0 → Q (some (.int (-1))) (am_N I J)) ∧ (¬ (v_isReport I x0) = 0 → (((I (43 + (Int32.toNatClampNeg x0)) 4) = 0 → Q (some (.int (-3))) (am_N I J)) ∧ (¬ (I (43 + (Int32.toNatClampNeg x0)) 4) = 0 → (((I (43 + (Int32.toNatClampNeg x0)) 0) = 0 → (((I (43 + (Int32.toNatClampNeg x0)) 3) = (-1) → Q (some (.int (-3))) (am_N I J)) ∧ (¬ (I (43 + (Int32.toNatClampNeg x0)) 3) = (-1) → ((Inv I ∧ Wf I) ∧ ((∃ c : Nat, c < 576 ∧ ¬ qz I (I (43 + (Int32.toNatClampNeg x0)) 1) c = 0) → ∀ (I3157 : Nat → Nat → Int32), wx I I3157 → Q (some (.int 0)) (am_N I3157 J)) ∧ ((∀ c : Nat, c < 576 → qz I (I (43 + (Int32.toNatClampNeg x0)) 1) c = 0) → ∀ (I3157 : Nat → Nat → Int32), wx I I3157 → Q (some (.int 1)) (am_N I3157 J)))))) ∧ (¬ (I (43 + (Int32.toNatClampNeg x0)) 0) = 0 → Q (some (.int (-3))) (am_N I J)))))))) : am_wp X (d + 6) 101 0 [.ref 0, .int x0, am_uv] [] (am_N I J) Q := s101_0 (s101_1 k0_0 p0_0_1 (s101_4 (s101_5 k0_35 (Nat.le_of_ble_eq_true rfl) (w_bfind hI (fun h => have k := k.1 h; am_aft (s101_8n rfl (s101_9n (s101_10n (s101_13 (s101_14 (k))))))) (fun h => have b3153 := hI.ixRep h; have k := k.2 h; am_aft (s101_8 rfl (s101_9 (s101_10 (s101_15 (s101_16 (k0_R (isR_of b3153)) (s101_19 (fun h3154 => have k := k.1 h3154; s101_37 (s101_39 (k))) (fun h3154 => have k := k.2 h3154; s101_22 (s101_23 (k0_R (isR_of b3153)) (s101_26 (fun h3155 => have k := k.1 h3155; s101_29 (s101_30 (k0_R (isR_of b3153)) (s101_33 (s101_34 (fun h3156 => have k := k.1 h3156; s101_37 (s101_39 (k))) (fun h3156 => have k := k.2 h3156; s101_40 (s101_41 k0_0 p0_0_1 (s101_44 (s101_45 (k0_R (isR_of b3153)) (s101_48 k0_35 (Nat.le_of_ble_eq_true rfl) (w_13 k.1.1 k.1.2 (fun hc I3157 h1 => have k := k.2.1 hc I3157 h1; am_aft (s101_51 (fun h => absurd h (show ¬ (1 : Int32) = 0 by decide)) (fun _ => s101_54 (s101_55 (s101_59 (k)))))) (fun hc I3157 h1 => have k := k.2.2 hc I3157 h1; am_aft (s101_51 (fun _ => s101_58 (s101_59 (k))) (fun h => absurd (show (0 : Int32) = 0 by decide) h))))))))))))) (fun h3155 => have k := k.2 h3155; s101_37 (s101_39 (k)))))))))))))))))
/-! A CELL'S BITS are its guesses -/
def gn (c i : Nat) : Int32 := Int32.ofInt ((24 * c + i : Nat) : Int)
theorem gn_at {c i : Nat} (hc : c < 576) (hi : i < 24) : gX (gn c i) = Int32.ofInt ((c / 48 : Nat) : Int) ∧ gY (gn c i) = Int32.ofInt ((c / 4 % 12 : Nat) : Int) ∧ gZ (gn c i) = Int32.ofInt ((c % 4 : Nat) : Int) ∧ gS (gn c i) = Int32.ofInt ((i / 2 + 1 : Nat) : Int) ∧ gD (gn c i) = Int32.ofInt ((i % 2 : Nat) : Int) := by
  obtain ⟨e1, e2, e3, e4, e5⟩ := gR_rem (z := ((24 * c + i : Nat) : Int)) (by omega) (by omega)
  unfold gX gY gZ gS gD gn
  rw [e1, e2, e3, e4, e5]
  refine ⟨congrArg Int32.ofInt ?_, congrArg Int32.ofInt ?_, congrArg Int32.ofInt ?_, congrArg Int32.ofInt ?_, congrArg Int32.ofInt ?_⟩ <;> omega
theorem cn_at {c : Nat} (hc : c < 576) : v_xOf (Int32.ofInt (c : Int)) = Int32.ofInt ((c / 48 : Nat) : Int) ∧ v_yOf (Int32.ofInt (c : Int)) = Int32.ofInt ((c / 4 % 12 : Nat) : Int) ∧ v_zOf (Int32.ofInt (c : Int)) = Int32.ofInt ((c % 4 : Nat) : Int) := by
  unfold v_xOf v_yOf v_zOf
  rw [show (48 : Int32) = Int32.ofInt 48 from rfl, show (4 : Int32) = Int32.ofInt 4 from rfl, show (12 : Int32) = Int32.ofInt 12 from rfl, oi_div (by omega) (by omega) (by omega) (by omega), oi_div (by omega) (by omega) (by omega) (by omega), oi_rem (by omega) (by omega) (by omega) (by omega), oi_rem (by omega) (by omega) (by omega) (by omega)]
  refine ⟨congrArg Int32.ofInt ?_, congrArg Int32.ofInt ?_, congrArg Int32.ofInt ?_⟩ <;> omega
theorem gn_gR {c i : Nat} (hc : c < 576) (hi : i < 24) : gR (gn c i) 0 13823 := ⟨((24 * c + i : Nat) : Int), by omega, by omega, rfl⟩
theorem far_eq {I : Nat → Nat → Int32} (hI : Inv I) {c i h : Nat} (hc : c < 576) (hi : i < 24) (hh : h < 8) : q_far I (Int32.ofInt (c : Int)) h = g_far I (gn c i) h ∧ gR (g_far I (gn c i) h) 0 323 ∧ g_way I (gn c i) h = (if i % 2 = 1 then 8 else q_way I (Int32.ofInt (c : Int)) h) ∧ gR (q_way I (Int32.ofInt (c : Int)) h) 0 8 := by
  have g := hI.2.1 h hh
  obtain ⟨x1, x2, x3, x4, x5⟩ := gn_at hc hi
  obtain ⟨y1, y2, y3⟩ := cn_at hc
  have g1 : gR (I 107 h) 0 11 := g.2.2.1.2.1
  have g2 : gR (I 108 h) 0 11 := g.2.2.1.2.2.1
  have r1 : gR (Int32.ofInt ((c / 48 : Nat) : Int)) 0 11 := ⟨_, by omega, by omega, rfl⟩
  have r2 : gR (Int32.ofInt ((c / 4 % 12 : Nat) : Int)) 0 11 := ⟨_, by omega, by omega, rfl⟩
  have r3 : gR (Int32.ofInt ((c % 4 : Nat) : Int)) 0 3 := ⟨_, by omega, by omega, rfl⟩
  unfold q_far g_far g_way q_way
  rw [x1, x2, x3, x5, y1, y2, y3, g.1.2.1, g.1.2.2.1]
  refine ⟨rfl, farR g1 r1 g2 r2 r3, ?_, way_gR⟩
  by_cases h2 : i % 2 = 1
  · rw [if_pos h2, h2]
    exact way_1
  · rw [if_neg h2, show i % 2 = 0 by omega]
    exact way_eq (g1.sub r1) (g2.sub r2)
theorem so_nk {kind v f y a s w l : Int32} (h : ¬ kind = 1) (w' l' : Int32) : r_so kind v f y a s w l = r_so kind v f y a s w' l' := by
  unfold r_so
  by_cases h0 : kind = 0
  · rw [if_pos h0, if_pos h0]
  · rw [if_neg h0, if_neg h, if_neg h0, if_neg h]
theorem bits_nk {kind v f y a s w l : Int32} (h : ¬ kind = 1) (w' l' : Int32) : k_bits kind v f y a s w l = k_bits kind v f y a s w' l' := by
  unfold k_bits
  by_cases h0 : kind = 0
  · rw [if_pos h0, if_pos h0]
  · rw [if_neg h0, if_neg h, if_neg h0, if_neg h]
theorem so_eq {I : Nat → Nat → Int32} (hI : Inv I) (hw : Wf I) {c i r : Nat} (hc : c < 576) (hi : i < 24) (hr : r < bk I) : tb (q_so I (Int32.ofInt (c : Int)) r) i = g_so I (gn c i) r := by
  obtain ⟨l1, l2⟩ := hI.lb hr
  have wr := hw r l1 l2
  obtain ⟨h8, -, -, -⟩ := wr.hp
  have g := hI.2.1 _ h8
  have gr := hI.2.2.2.2.2.2.1 r l1
  obtain ⟨f1, f2, f3, f4⟩ := far_eq hI hc hi h8
  obtain ⟨-, -, -, x4, -⟩ := gn_at hc hi
  unfold q_so g_so kb
  rw [hI.rq l1, f1, f3, x4]
  obtain ⟨F, F1, F2, eF⟩ := f2
  obtain ⟨Y, Y1, Y2, eY⟩ := f4
  obtain ⟨A, A1, A2, eA⟩ := g.2.2.1.2.2.2.1
  obtain ⟨S, S1, S2, eS⟩ := g.2.2.1.2.2.2.2.1
  rw [eF, eY, g.1.2.2.2.1, g.1.2.2.2.2.1, eA, eS, gr.1.1, gr.1.2.2.2]
  have hv := wr.2.1
  rw [gr.1.1, gr.1.2.2.2] at hv
  by_cases hk : I 128 r = 1
  · obtain ⟨p, p1, p2, ep⟩ := gr.2.2.2.2.2.2.2 hk
    obtain ⟨q, q1, q2, eq⟩ := gr.2.2.2.2.2.1
    have eh : q_h I r = q.toNat := by
      unfold q_h
      rw [gr.1.2.1, eq, oi_cl (by omega)]
    have eP : rr_p I r = 6 * q_h I r + p.toNat := by
      unfold rr_p
      rw [eq, ep, show (6 : Int32) = Int32.ofInt 6 from rfl, oi_mul, oi_add, oi_cl (by omega), eh]
      omega
    have ec : Int32.toNatClampNeg (I (43 + r) 2) = p.toNat := by rw [gr.1.2.2.1, ep, oi_cl (by omega)]
    have gp := hI.2.2.1 _ p.toNat h8 (by omega)
    rw [eP, ec, gp.1, gp.2.1]
    obtain ⟨W, W1, W2, eW⟩ := gp.2.2.2.1
    obtain ⟨L, L1, L2, eL⟩ := gp.2.2.2.2.1
    rw [eW, eL]
    exact bits_tb (by omega) (by omega) (by omega) (by omega) (by omega) (by omega) hv hi
  · rw [bits_nk hk (Int32.ofInt 0) (Int32.ofInt 0), so_nk hk (Int32.ofInt 0) (Int32.ofInt 0)]
    exact bits_tb (by omega) (by omega) (by omega) (by omega) (by omega) (by omega) hv hi
theorem M24.so {I : Nat → Nat → Int32} {c : Int32} {r : Nat} : M24 (q_so I c r) := M24.bits
theorem fb_tb {S : Nat → Int32} {A A' : Nat → Bool} {T : Nat → Bool} {i : Nat} (hi : i < 24) : ∀ m, (∀ r, r < m → A r = A' r) → (∀ r, r < m → A' r = true → tb (S r) i = T r) → tb (fb S A m) i = ga T A' m := by
  intro m
  induction m with
  | zero =>
    intro _ _
    show tb 16777215 i = true
    rw [tb_all, decide_eq_true hi]
  | succ m ih =>
    intro h1 h2
    show tb (if A m = true then fb S A m &&& S m else fb S A m) i = (ga T A' m && (!A' m || T m))
    rw [← ih (fun r hr => h1 r (by omega)) (fun r hr => h2 r (by omega)), h1 m (by omega)]
    by_cases ha : A' m = true
    · rw [if_pos ha, tb_and, h2 m (by omega) ha, ha]
      rfl
    · rw [if_neg ha]
      have ha : A' m = false := by cases hq : A' m with
        | false => rfl
        | true => exact absurd hq ha
      rw [ha]
      exact (Bool.and_true _).symm
theorem M24.fbm {S : Nat → Int32} {A : Nat → Bool} (hS : ∀ r, M24 (S r)) : ∀ m, M24 (fb S A m) := by
  intro m
  induction m with
  | zero => exact M24.all
  | succ m ih =>
    show M24 (if A m = true then fb S A m &&& S m else fb S A m)
    split
    · exact ih.andl
    · exact ih
theorem max_0 {x f : Int32} (hx : 0 ≤ x) : am_max x (am_max 0 f) = if f ≤ x then x else f := by
  unfold am_max
  by_cases h : 0 < f
  · rw [if_pos h]
    by_cases h2 : x < f
    · rw [if_pos h2, if_neg (Int32.not_le.mpr h2)]
    · rw [if_neg h2, if_pos (Int32.not_lt.mp h2)]
  · rw [if_neg h, if_neg (Int32.not_lt.mpr hx), if_pos (Int32.le_trans (Int32.not_lt.mp h) hx)]
theorem min_L {x f : Int32} (hx : x ≤ 1000000) : am_min x (am_min 1000000 f) = if x ≤ f then x else f := by
  unfold am_min
  by_cases h : f < 1000000
  · rw [if_pos h]
    by_cases h2 : f < x
    · rw [if_pos h2, if_neg (Int32.not_le.mpr h2)]
    · rw [if_neg h2, if_pos (Int32.not_lt.mp h2)]
  · rw [if_neg h, if_neg (Int32.not_lt.mpr hx), if_pos (Int32.le_trans hx (Int32.not_lt.mp h))]
theorem fF_gE {S f : Nat → Int32} {A A' K : Nat → Bool} : ∀ m, (∀ r, r < m → A r = A' r) → (∀ r, r < m → A' r = true → S r = if K r = true then am_max 0 (f r) else 0) → fF S A m = gE f (fun r => A' r && K r) m ∧ 0 ≤ fF S A m := by
  intro m
  induction m with
  | zero => intro _ _; exact ⟨rfl, Int32.le_refl _⟩
  | succ m ih =>
    intro h1 h2
    obtain ⟨e, l⟩ := ih (fun r hr => h1 r (by omega)) (fun r hr => h2 r (by omega))
    have d1 : fF S A (m + 1) = if A m = true then am_max (fF S A m) (S m) else fF S A m := rfl
    have d2 : gE f (fun r => A' r && K r) (m + 1) = if (A' m && K m) = true then (if f m ≤ gE f (fun r => A' r && K r) m then gE f (fun r => A' r && K r) m else f m) else gE f (fun r => A' r && K r) m := rfl
    rw [d1, d2, h1 m (by omega), ← e]
    by_cases ha : A' m = true
    · rw [if_pos ha, h2 m (by omega) ha, ha, Bool.true_and]
      by_cases hk : K m = true
      · rw [if_pos hk, if_pos hk, max_0 l]
        refine ⟨rfl, ?_⟩
        split
        · exact l
        · rename_i hq
          exact Int32.le_trans l (Int32.le_of_lt (Int32.not_le.mp hq))
      · rw [if_neg hk, if_neg hk]
        unfold am_max
        rw [if_neg (Int32.not_lt.mpr l)]
        exact ⟨rfl, l⟩
    · rw [if_neg ha, if_neg (by rw [Bool.and_eq_true]; exact fun q => ha q.1)]
      exact ⟨rfl, l⟩
theorem fT_gL {S f : Nat → Int32} {A A' K : Nat → Bool} : ∀ m, (∀ r, r < m → A r = A' r) → (∀ r, r < m → A' r = true → S r = if K r = true then am_min 1000000 (f r) else 1000000) → fT S A m = gL f (fun r => A' r && K r) m ∧ fT S A m ≤ 1000000 := by
  intro m
  induction m with
  | zero => intro _ _; exact ⟨rfl, Int32.le_refl _⟩
  | succ m ih =>
    intro h1 h2
    obtain ⟨e, l⟩ := ih (fun r hr => h1 r (by omega)) (fun r hr => h2 r (by omega))
    have d1 : fT S A (m + 1) = if A m = true then am_min (fT S A m) (S m) else fT S A m := rfl
    have d2 : gL f (fun r => A' r && K r) (m + 1) = if (A' m && K m) = true then (if gL f (fun r => A' r && K r) m ≤ f m then gL f (fun r => A' r && K r) m else f m) else gL f (fun r => A' r && K r) m := rfl
    rw [d1, d2, h1 m (by omega), ← e]
    by_cases ha : A' m = true
    · rw [if_pos ha, h2 m (by omega) ha, ha, Bool.true_and]
      by_cases hk : K m = true
      · rw [if_pos hk, if_pos hk, min_L l]
        refine ⟨rfl, ?_⟩
        split
        · exact l
        · rename_i hq
          exact Int32.le_trans (Int32.le_of_lt (Int32.not_le.mp hq)) l
      · rw [if_neg hk, if_neg hk]
        unfold am_min
        rw [if_neg (Int32.not_lt.mpr l)]
        exact ⟨rfl, l⟩
    · rw [if_neg ha, if_neg (by rw [Bool.and_eq_true]; exact fun q => ha q.1)]
      exact ⟨rfl, l⟩
theorem time_eq {I : Nat → Nat → Int32} (hI : Inv I) (hw : Wf I) {c i r : Nat} (hc : c < 576) (hi : i < 24) (hr : r < bk I) : q_from I (Int32.ofInt (c : Int)) r = (if decide (I 128 r = 2) = true then am_max 0 (g_fr I (gn c i) r) else 0) ∧ q_till I (Int32.ofInt (c : Int)) r = if decide (I 128 r = 2) = true then am_min 1000000 (g_tl I (gn c i) r) else 1000000 := by
  obtain ⟨l1, l2⟩ := hI.lb hr
  obtain ⟨h8, -, -, -⟩ := (hw r l1 l2).hp
  have g := hI.2.1 _ h8
  have gr := hI.2.2.2.2.2.2.1 r l1
  obtain ⟨f1, f2, -, -⟩ := far_eq hI hc hi h8
  unfold q_from q_till kf kt k_from k_till g_fr g_tl
  rw [hI.rq l1, f1, delay_eq f2, gr.1.1, gr.1.2.2.2, g.1.2.2.2.2.2.1, g.1.2.2.2.2.2.2]
  by_cases hk : I 128 r = 2
  · rw [if_pos hk, if_pos hk, decide_eq_true hk, if_pos rfl, if_pos rfl]
    refine ⟨congrArg _ ?_, congrArg _ ?_⟩
    · simp only [Int32.sub_eq_add_neg, Int32.add_assoc, Int32.add_comm (-v_rt _)]
    · simp only [Int32.sub_eq_add_neg, Int32.add_assoc, Int32.add_comm (-v_rt _)]
  · rw [if_neg hk, if_neg hk, decide_eq_false hk, if_neg (by decide), if_neg (by decide)]
    exact ⟨rfl, rfl⟩
/-- what fits, of a cell and of its guesses -/
theorem cell_fit {I : Nat → Nat → Int32} (hI : Inv I) (hw : Wf I) {A A' : Nat → Bool} (hA : ∀ r, r < bk I → A r = A' r) {c i : Nat} (hc : c < 576) (hi : i < 24) : tb (q_fb I (Int32.ofInt (c : Int)) A) i = g_all I (gn c i) A' ∧ q_ff I (Int32.ofInt (c : Int)) A = g_E I (gn c i) A' ∧ q_ft I (Int32.ofInt (c : Int)) A = g_L I (gn c i) A' ∧ tb (q_bits I (Int32.ofInt (c : Int)) A) i = g_fit I (gn c i) A' := by
  have e1 : tb (q_fb I (Int32.ofInt (c : Int)) A) i = g_all I (gn c i) A' := fb_tb hi _ hA (fun r hr _ => so_eq hI hw hc hi hr)
  have e2 : q_ff I (Int32.ofInt (c : Int)) A = g_E I (gn c i) A' := (fF_gE _ hA (fun r hr _ => (time_eq hI hw hc hi hr).1)).1
  have e3 : q_ft I (Int32.ofInt (c : Int)) A = g_L I (gn c i) A' := (fT_gL _ hA (fun r hr _ => (time_eq hI hw hc hi hr).2)).1
  refine ⟨e1, e2, e3, ?_⟩
  unfold q_bits g_fit
  rw [e2, e3, ← e1]
  by_cases h : g_L I (gn c i) A' < g_E I (gn c i) A'
  · rw [if_pos h, decide_eq_true h, tb_0]
    exact (Bool.and_false _).symm
  · rw [if_neg h, decide_eq_false h]
    exact (Bool.and_true _).symm
theorem M24.q {I : Nat → Nat → Int32} {c : Int32} {A : Nat → Bool} : M24 (q_bits I c A) := by
  unfold q_bits
  split
  · exact M24.z
  · exact M24.fbm (fun _ => M24.so) _
