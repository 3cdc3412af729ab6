/-! A GUESS is weighed -/
def cS (S : Nat → Bool) : Nat → Int64
  | 0 => 0
  | m + 1 => if S m = true then cS S m ||| am_lshl 1 (Int32.ofInt (m : Int)) else cS S m
theorem tl_cS (S : Nat → Bool) : ∀ m, m ≤ 40 → ∀ i, tl (cS S m) i = (decide (i < m) && S i) := by
  intro m
  induction m with
  | zero =>
    intro _ i
    rw [decide_eq_false (by omega)]
    exact tl_0 i
  | succ m ih =>
    intro hm i
    have e0 := ih (by omega) i
    show tl (if S m = true then cS S m ||| am_lshl 1 (Int32.ofInt (m : Int)) else cS S m) i = _
    by_cases h : S m = true
    · rw [if_pos h, tl_or, e0]
      rcases Nat.lt_or_ge i 64 with i64 | i64
      · rw [tl_one (by omega) i64]
        by_cases e : i = m
        · rw [e, h, decide_eq_true rfl, decide_eq_true (show m < m + 1 by omega), Bool.or_true]
          rfl
        · rw [decide_eq_false e, Bool.or_false, show decide (i < m + 1) = decide (i < m) from decide_eq_decide.mpr (by omega)]
      · rw [tl_big i64, decide_eq_false (show ¬ i < m by omega), decide_eq_false (show ¬ i < m + 1 by omega)]
        rfl
    · rw [if_neg h, e0]
      by_cases e : i = m
      · rw [Bool.not_eq_true] at h
        rw [e, h, Bool.and_false, Bool.and_false]
      · rw [show decide (i < m + 1) = decide (i < m) from decide_eq_decide.mpr (by omega)]
def cst (I : Nat → Nat → Int32) (b : Nat) : Int64 := cS (clr' I b) (bk I)
theorem t31_eq {I : Nat → Nat → Int32} (hI : Inv I) {b : Nat} {c : Int64} (h : t31 I b c) : c = cst I b := tl_ext (fun i _ => (h i).trans (tl_cS _ _ hI.book.2 i).symm)
def p30 (I : Nat → Nat → Int32) (x : Int32) : Prop := Inv I ∧ ∃ b : Nat, b < 24 ∧ x = Int32.ofInt (b : Int)
theorem w_30b {X : am_X} {d : Nat} {I : Nat → Nat → Int32} {J : Nat → Nat → Int64} {Q : Option Value → am_M → Prop} {x0 : Int32} (h : p30 I x0) (k : ∀ r, t30 I (Int32.toNatClampNeg x0) r → Q (some (.int r)) (am_N I J)) : am_wp X d 30 0 [.ref 87, .int x0, am_uv, am_uv] [] (am_N I J) Q := by
  obtain ⟨hI, b, hb, rfl⟩ := h
  rw [oi_cln (by omega)] at k
  exact w_30 hI hb rfl k
theorem w_31b {X : am_X} {d : Nat} {I : Nat → Nat → Int32} {J : Nat → Nat → Int64} {Q : Option Value → am_M → Prop} {x0 : Int32} (h : p30 I x0) (k : Q (some (.long (cst I (Int32.toNatClampNeg x0)))) (am_N I J)) : am_wp X d 31 0 [.ref 87, .int x0, am_uv, am_uv, am_uv, am_uv] [] (am_N I J) Q := by
  obtain ⟨hI, b, hb, rfl⟩ := h
  rw [oi_cln (by omega)] at k
  exact w_31 hI hb rfl (fun c hc => by rw [t31_eq hI hc]; exact k)
/-- never so, or so and a clock: no more than there are -/
theorem nv_cl (I : Nat → Nat → Int32) (b : Nat) (c : Int64) : ∀ m, (∀ i, i < m → tl c i = clr' I b i) → nvn I b m + lcn c m ≤ m := by
  intro m
  induction m with
  | zero => intro _; exact Nat.le_refl 0
  | succ m ih =>
    intro h
    have i0 := ih (fun i hi => h i (by omega))
    have hm := h m (by omega)
    show (nvn I b m + (if nvr I b m = true then 1 else 0)) + (lcn c m + (if tl c m = true then 1 else 0)) ≤ m + 1
    rw [hm]
    unfold nvr clr'
    cases tb (I 40 m) b with
    | true =>
      rw [show (onr I m && !true) = false from Bool.and_false _, if_neg (by decide)]
      split <;> omega
    | false =>
      rw [Bool.and_false, Bool.and_false, if_neg (show ¬ false = true by decide)]
      split <;> omega
theorem lcn_hi (c : Int64) {N : Nat} (h : ∀ i, N ≤ i → tl c i = false) : ∀ m, N ≤ m → lcn c m = lcn c N := by
  intro m hm
  induction hm with
  | refl => rfl
  | @step m hm ih =>
    have hm' : N ≤ m := hm
    show lcn c m + (if tl c m = true then 1 else 0) = lcn c N
    rw [ih, h m hm', if_neg (by decide)]
    rfl
theorem ctn_lcn (I : Nat → Nat → Int32) (c : Int64) (t : Int32) : ∀ m, ctn I c t m ≤ lcn c m := by
  intro m
  induction m with
  | zero => exact Nat.le_refl 0
  | succ m ih =>
    show ctn I c t m + (if cth I c t m = true then 1 else 0) ≤ lcn c m + (if tl c m = true then 1 else 0)
    unfold cth
    cases tl c m with
    | true =>
      rw [if_pos (rfl : true = true)]
      split <;> omega
    | false =>
      rw [Bool.false_and, if_neg (show ¬ false = true by decide)]
      exact ih
theorem tst_K {C : Int32 → Nat} {K : Nat} {p : Nat × Int32} {u : Int32} (hC : ∀ u, C u ≤ K) (hp : p.1 ≤ K) : (tst C p u).1 ≤ K := by
  unfold tst
  split
  · split
    · exact hC u
    · split
      · split
        · exact hp
        · exact hC u
      · exact hp
  · exact hp
theorem tfo_K (I : Nat → Nat → Int32) (c : Int64) : ∀ m, (tfo I c m).1 ≤ lcn c (bk I) := by
  intro m
  induction m with
  | zero => exact ctn_lcn I c 0 _
  | succ m ih =>
    show (if tl c m = true then tst (Cn I c) (tfo I c m) (I 41 m) else tfo I c m).1 ≤ _
    split
    · exact tst_K (fun u => ctn_lcn I c u _) ih
    · exact ih
/-- a guess: how many are wrong at the best TIME, and when -/
def gNv (I : Nat → Nat → Int32) (b : Nat) : Nat := nvn I b (bk I)
def gH (I : Nat → Nat → Int32) (b : Nat) : Nat := gNv I b + (lcn (cst I b) 40 - (tfo I (cst I b) (bk I)).1)
def gTm (I : Nat → Nat → Int32) (b : Nat) : Int32 := (tfo I (cst I b) (bk I)).2
theorem gH_40 {I : Nat → Nat → Int32} (hI : Inv I) (b : Nat) : gH I b ≤ 40 ∧ gNv I b ≤ 40 ∧ (tfo I (cst I b) (bk I)).1 ≤ lcn (cst I b) 40 ∧ v_lbc (cst I b) = Int32.ofInt (lcn (cst I b) 40 : Int) := by
  obtain ⟨e, l⟩ := hI.book
  have ht := tl_cS (clr' I b) (bk I) l
  have h0 : ∀ i, bk I ≤ i → tl (cst I b) i = false := fun i hi => by
    show tl (cS (clr' I b) (bk I)) i = false
    rw [ht i, decide_eq_false (by omega)]
    rfl
  have e40 := lcn_hi (cst I b) h0 40 l
  have s := nv_cl I b (cst I b) (bk I) (fun i hi => by
    show tl (cS (clr' I b) (bk I)) i = _
    rw [ht i, decide_eq_true hi]
    rfl)
  have K := tfo_K I (cst I b) (bk I)
  refine ⟨?_, ?_, by rw [e40]; exact K, lbc_40 (fun i hi => h0 i (by omega))⟩
  · unfold gH gNv
    omega
  · unfold gNv
    omega
def w89 (I I' : Nat → Nat → Int32) : Prop := ∀ a k, ¬ (a = 87 ∧ 2 ≤ k ∧ k ≤ 8) → I' a k = I a k
theorem w87.w (I I' : Nat → Nat → Int32) (h : w87 I I') : w89 I I' := fun a k q => h a k (by omega)
theorem w89.sm {I I' : Nat → Nat → Int32} (h : w89 I I') : sm I I' := fun a k q => h a k (fun p => q (by unfold Sc; omega))
theorem w89.tr {I I' I'' : Nat → Nat → Int32} (h : w89 I I') (h' : w89 I' I'') : w89 I I'' := fun a k q => (h' a k q).trans (h a k q)
theorem w89.bok {I I' : Nat → Nat → Int32} (h : w89 I I') : bk I' = bk I := by
  unfold bk
  rw [h 35 2 (by omega)]
theorem tfo_cg {I I' : Nat → Nat → Int32} (hb : bk I' = bk I) (h1 : ∀ r, I' 41 r = I 41 r) (h2 : ∀ r, I' 42 r = I 42 r) (c : Int64) : ∀ m, tfo I' c m = tfo I c m := by
  have hC : Cn I' c = Cn I c := funext fun u => by
    unfold Cn
    rw [hb]
    exact ctn_cg h1 h2 c u _
  intro m
  induction m with
  | zero =>
    show (Cn I' c 0, (0 : Int32)) = (Cn I c 0, 0)
    rw [hC]
  | succ m ih =>
    show (if tl c m = true then tst (Cn I' c) (tfo I' c m) (I' 41 m) else tfo I' c m) = (if tl c m = true then tst (Cn I c) (tfo I c m) (I 41 m) else tfo I c m)
    rw [hC, ih, h1]
theorem w89.tf {I I' : Nat → Nat → Int32} (h : w89 I I') (c : Int64) : tfo I' c (bk I') = tfo I c (bk I) := by
  rw [h.bok]
  exact tfo_cg h.bok (fun r => h 41 r (by omega)) (fun r => h 42 r (by omega)) c _
/-- the set that was timed last -/
def Tm (I : Nat → Nat → Int32) (J : Nat → Nat → Int64) : Prop := I 87 7 = Int32.ofInt ((tfo I (J 87 6) (bk I)).1 : Int) ∧ I 87 8 = (tfo I (J 87 6) (bk I)).2
def p29 (I : Nat → Nat → Int32) (J : Nat → Nat → Int64) (x : Int32) : Prop := p30 I x ∧ Tm I J
def t29 (I I' : Nat → Nat → Int32) (J' : Nat → Nat → Int64) (x0 : Int32) (b : Nat) : Prop := w89 I I' ∧ Tm I' J' ∧ (Int32.ofInt (gNv I b : Int) < I 87 5 ∧ Int32.ofInt (gH I b : Int) < I 87 5 → I' 87 5 = Int32.ofInt (gH I b : Int) ∧ I' 87 2 = x0 ∧ I' 87 3 = Int32.ofInt (b : Int) ∧ I' 87 4 = gTm I b) ∧ (¬ (Int32.ofInt (gNv I b : Int) < I 87 5 ∧ Int32.ofInt (gH I b : Int) < I 87 5) → I' 87 5 = I 87 5 ∧ I' 87 2 = I 87 2 ∧ I' 87 3 = I 87 3 ∧ I' 87 4 = I 87 4)
theorem c_29 {X : am_X} {d : Nat} {I : Nat → Nat → Int32} {J : Nat → Nat → Int64} {Q : Option Value → am_M → Prop} {x0 : Int32} {x1 : Int32} (k : (p30 I x1 ∧ ∀ (r3217 : Int32), t30 I (Int32.toNatClampNeg x1) r3217 → ((r3217 < (I 87 5) → (p30 I x1 ∧ (((lg_cmp (cst I (Int32.toNatClampNeg x1)) (J 87 6)) = 0 → (((I 87 5) ≤ ((r3217 + (v_lbc (cst I (Int32.toNatClampNeg x1)))) - (I 87 7)) → Q none (am_N I J)) ∧ (¬ (I 87 5) ≤ ((r3217 + (v_lbc (cst I (Int32.toNatClampNeg x1)))) - (I 87 7)) → Q none (am_N (am_up (am_up (am_up (am_up I 87 5 ((r3217 + (v_lbc (cst I (Int32.toNatClampNeg x1)))) - (I 87 7))) 87 2 x0) 87 3 x1) 87 4 (I 87 8)) J)))) ∧ (¬ (lg_cmp (cst I (Int32.toNatClampNeg x1)) (J 87 6)) = 0 → (Inv I ∧ ∀ (I3221 : Nat → Nat → Int32), t32 I I3221 (cst I (Int32.toNatClampNeg x1)) → (((I3221 87 5) ≤ ((r3217 + (v_lbc (cst I (Int32.toNatClampNeg x1)))) - (I3221 87 7)) → Q none (am_N I3221 (am_up J 87 6 (cst I (Int32.toNatClampNeg x1))))) ∧ (¬ (I3221 87 5) ≤ ((r3217 + (v_lbc (cst I (Int32.toNatClampNeg x1)))) - (I3221 87 7)) → Q none (am_N (am_up (am_up (am_up (am_up I3221 87 5 ((r3217 + (v_lbc (cst I (Int32.toNatClampNeg x1)))) - (I3221 87 7))) 87 2 x0) 87 3 x1) 87 4 (I3221 87 8)) (am_up J 87 6 (cst I (Int32.toNatClampNeg x1))))))))))) ∧ (¬ r3217 < (I 87 5) → Q none (am_N I J))))) : am_wp X (d + 3) 29 0 [.ref 87, .int x0, .int x1, am_uv, am_uv, am_uv, am_uv] [] (am_N I J) Q := s29_0 (s29_1 (s29_2 k0_87 (Nat.le_of_ble_eq_true rfl) (w_30b k.1 (fun r3217 h1 => have k := k.2 r3217 h1; am_aft (s29_5 rfl (s29_6 (s29_7 (s29_8 k0_87 (s29_11 (fun h3218 => have k := k.1 h3218; s29_15 (s29_16 (s29_17 k0_87 (Nat.le_of_ble_eq_true rfl) (w_31b k.1 (have k := k.2; am_aft (s29_20 rfl (s29_22 (s29_24 (s29_25 k0_87 (s29_28 (s29_29 (fun h3219 => have k := k.1 h3219; s29_38 (s29_39 (s29_41 (Nat.le_of_ble_eq_true rfl) (w_lbc (am_aft (s29_44 (s29_45 (s29_46 k0_87 (s29_49 (s29_50 rfl (s29_52 (s29_54 (s29_55 k0_87 (s29_58 (fun h3220 => have k := k.1 h3220; s29_85 (k)) (fun h3220 => have k := k.2 h3220; s29_61 (s29_62 (s29_64 k0_87 (s29_67 (s29_68 (s29_69 k0_87 (s29_72 (s29_73 (s29_74 k0_87 (s29_77 (s29_78 (s29_79 k0_87 (s29_82 k0_87 (s29_85 (k))))))))))))))))))))))))))))) (fun h3219 => have k := k.2 h3219; s29_32 (s29_33 (s29_35 k0_87 (Nat.le_of_ble_eq_true rfl) (w_32 k.1 (fun I3221 h1 => have k := k.2 I3221 h1; am_aft0 (s29_38 (s29_39 (s29_41 (Nat.le_of_ble_eq_true rfl) (w_lbc (am_aft (s29_44 (s29_45 (s29_46 k0_87 (s29_49 (s29_50 rfl (s29_52 (s29_54 (s29_55 k0_87 (s29_58 (fun h3222 => have k := k.1 h3222; s29_85 (k)) (fun h3222 => have k := k.2 h3222; s29_61 (s29_62 (s29_64 k0_87 (s29_67 (s29_68 (s29_69 k0_87 (s29_72 (s29_73 (s29_74 k0_87 (s29_77 (s29_78 (s29_79 k0_87 (s29_82 k0_87 (s29_85 (k))))))))))))))))))))))))))))))))))))))))))))) (fun h3218 => have k := k.2 h3218; s29_14 (k)))))))))))
theorem w_29 {X : am_X} {d : Nat} {I : Nat → Nat → Int32} {J : Nat → Nat → Int64} {Q : Option Value → am_M → Prop} {x0 x1 : Int32} (h : p29 I J x1) (k : ∀ (I' : Nat → Nat → Int32) (J' : Nat → Nat → Int64), t29 I I' J' x0 (Int32.toNatClampNeg x1) → Q none (am_N I' J')) : am_wp X (d + 3) 29 0 [.ref 87, .int x0, .int x1, am_uv, am_uv, am_uv, am_uv] [] (am_N I J) Q := by
  obtain ⟨hp, hT⟩ := h
  have hp' := hp
  obtain ⟨hI, b, hb, rfl⟩ := hp'
  have cb : Int32.toNatClampNeg (Int32.ofInt (b : Int)) = b := oi_cln (by omega)
  obtain ⟨g1, g2, g3, g4⟩ := gH_40 hI b
  refine c_29 ⟨hp, fun r hr => ?_⟩
  rw [cb] at hr k ⊢
  obtain ⟨n, n1, rfl, n2⟩ := hr
  have stay : ¬ (Int32.ofInt (gNv I b : Int) < I 87 5 ∧ Int32.ofInt (gH I b : Int) < I 87 5) → ∀ (I' : Nat → Nat → Int32) (J' : Nat → Nat → Int64), w87 I I' → Tm I' J' → Q none (am_N I' J') := by
    intro q I' J' hs hT'
    refine k I' J' ⟨hs.w, hT', fun p => absurd p q, fun _ => ⟨hs 87 5 (by omega), hs 87 2 (by omega), hs 87 3 (by omega), hs 87 4 (by omega)⟩⟩
  refine ⟨fun lt => ⟨hp, ?_⟩, fun nl => ?_⟩
  · have en : n = gNv I b := by
      rcases n2 with q | q
      · exact q
      · exact absurd lt (Int32.not_lt.mpr q)
    subst en
    have here : ∀ I' : Nat → Nat → Int32, I' 87 7 = Int32.ofInt ((tfo I (cst I b) (bk I)).1 : Int) → Int32.ofInt (gNv I b : Int) + v_lbc (cst I b) - I' 87 7 = Int32.ofInt (gH I b : Int) := by
      intro I' e
      rw [e, g4, oi_add, oi_sub]
      congr 1
      unfold gH
      omega
    have fin : ∀ (I' : Nat → Nat → Int32) (J' : Nat → Nat → Int64), w87 I I' → I' 87 7 = Int32.ofInt ((tfo I (cst I b) (bk I)).1 : Int) → I' 87 8 = gTm I b → J' 87 6 = cst I b → (((I' 87 5) ≤ ((Int32.ofInt (gNv I b : Int) + (v_lbc (cst I b))) - (I' 87 7)) → Q none (am_N I' J')) ∧ (¬ (I' 87 5) ≤ ((Int32.ofInt (gNv I b : Int) + (v_lbc (cst I b))) - (I' 87 7)) → Q none (am_N (am_up (am_up (am_up (am_up I' 87 5 ((Int32.ofInt (gNv I b : Int) + (v_lbc (cst I b))) - (I' 87 7))) 87 2 x0) 87 3 (Int32.ofInt (b : Int))) 87 4 (I' 87 8)) J'))) := by
      intro I' J' hs e7 e8 eJ
      have tI : Tm I' J' := by
        unfold Tm
        rw [eJ, hs.w.tf]
        exact ⟨e7, e8⟩
      rw [here I' e7, hs 87 5 (by omega)]
      refine ⟨fun q => stay (fun p => Int32.not_lt.mpr q p.2) I' J' hs tI, fun q => ?_⟩
      refine k _ J' ⟨fun a j p => ?_, ?_, fun _ => ⟨?_, ?_, ?_, ?_⟩, fun p => absurd ⟨lt, Int32.not_le.mp q⟩ p⟩
      · rw [am_upv, if_neg (by omega), am_upv, if_neg (by omega), am_upv, if_neg (by omega), am_upv, if_neg (by omega)]
        exact hs a j (by omega)
      · have s2 : w89 I' (am_up (am_up (am_up (am_up I' 87 5 (Int32.ofInt (gH I b : Int))) 87 2 x0) 87 3 (Int32.ofInt (b : Int))) 87 4 (I' 87 8)) := fun a j p => by rw [am_upv, if_neg (by omega), am_upv, if_neg (by omega), am_upv, if_neg (by omega), am_upv, if_neg (by omega)]
        unfold Tm
        rw [s2.tf]
        refine ⟨?_, ?_⟩
        · rw [am_upv, if_neg (by omega), am_upv, if_neg (by omega), am_upv, if_neg (by omega), am_upv, if_neg (by omega)]
          exact tI.1
        · rw [am_upv, if_neg (by omega), am_upv, if_neg (by omega), am_upv, if_neg (by omega), am_upv, if_neg (by omega)]
          exact tI.2
      · rw [am_upv, if_neg (by omega), am_upv, if_neg (by omega), am_upv, if_neg (by omega), am_upv, if_pos (by omega)]
      · rw [am_upv, if_neg (by omega), am_upv, if_neg (by omega), am_upv, if_pos (by omega)]
      · rw [am_upv, if_neg (by omega), am_upv, if_pos (by omega)]
      · rw [am_upv, if_pos (by omega)]
        exact e8
    refine ⟨fun z => ?_, fun z => ⟨hI, fun I1 h1 => ?_⟩⟩
    · have ez := lgz.mp z
      obtain ⟨t1, t2⟩ := hT
      rw [← ez] at t1 t2
      exact fin I J w87.rf t1 t2 ez.symm
    · exact fin I1 _ h1.1 h1.2.1 h1.2.2 (by rw [am_upv, if_pos (by omega)])
  · refine stay (fun p => ?_) I J w87.rf hT
    rcases n2 with q | q
    · rw [q] at nl
      exact nl p.1
    · have := Int32.lt_of_lt_of_le p.1 q
      have n1' : n ≤ gNv I b := n1
      rw [oi_lt (by omega) (by omega)] at this
      omega
