theorem c_33 {X : am_X} {d : Nat} {I : Nat → Nat → Int32} {J : Nat → Nat → Int64} {Q : Option Value → am_M → Prop} {x0 : Int64} {x1 : Int32} (k : ((x1 ≤ 1000000 → (Inv I ∧ (((I 87 7) < (Int32.ofInt (ctn I x0 x1 (bk I) : Int)) → Q none (am_N (am_up (am_up I 87 7 (Int32.ofInt (ctn I x0 x1 (bk I) : Int))) 87 8 x1) J)) ∧ (¬ (I 87 7) < (Int32.ofInt (ctn I x0 x1 (bk I) : Int)) → (((Int32.ofInt (ctn I x0 x1 (bk I) : Int)) = (I 87 7) → (((I 87 8) ≤ x1 → Q none (am_N I J)) ∧ (¬ (I 87 8) ≤ x1 → Q none (am_N (am_up (am_up I 87 7 (Int32.ofInt (ctn I x0 x1 (bk I) : Int))) 87 8 x1) J)))) ∧ (¬ (Int32.ofInt (ctn I x0 x1 (bk I) : Int)) = (I 87 7) → Q none (am_N I J))))))) ∧ (¬ x1 ≤ 1000000 → Q none (am_N I J)))) : am_wp X (d + 1) 33 0 [.ref 87, .long x0, am_uv, .int x1, am_uv] [] (am_N I J) Q := s33_0 (s33_1 (s33_3 (fun h3209 => have k := k.1 h3209; s33_7 (s33_8 (s33_9 (s33_10 k0_87 (Nat.le_of_ble_eq_true rfl) (w_34 k.1 (have k := k.2; am_aft (s33_13 rfl (s33_15 (s33_17 (s33_18 k0_87 (s33_21 (fun h3210 => have k := k.1 h3210; s33_41 (s33_42 (s33_44 k0_87 (s33_47 (s33_48 (s33_49 k0_87 (s33_52 (k)))))))) (fun h3210 => have k := k.2 h3210; s33_24 (s33_26 (s33_27 k0_87 (s33_30 (fun h3211 => have k := k.1 h3211; s33_33 (s33_34 (s33_35 k0_87 (s33_38 (fun h3212 => have k := k.1 h3212; s33_52 (k)) (fun h3212 => have k := k.2 h3212; s33_41 (s33_42 (s33_44 k0_87 (s33_47 (s33_48 (s33_49 k0_87 (s33_52 (k)))))))))))) (fun h3211 => have k := k.2 h3211; s33_52 (k))))))))))))))))) (fun h3209 => have k := k.2 h3209; s33_6 (k))))
theorem c_32 {X : am_X} {d : Nat} {I : Nat → Nat → Int32} {J : Nat → Nat → Int64} {Q : Option Value → am_M → Prop} {x0 : Int64} (k : (Inv (am_up I 87 8 0) ∧ am_wp X (d + 2) 32 22 [.ref 87, .long x0, am_uv, .int 0] [] (am_N (am_up (am_up I 87 8 0) 87 7 (Int32.ofInt (ctn (am_up I 87 8 0) x0 0 (bk (am_up I 87 8 0)) : Int))) (am_up J 87 6 x0)) Q)) : am_wp X (d + 2) 32 0 [.ref 87, .long x0, am_uv, am_uv] [] (am_N I J) Q := s32_0 (s32_1 (s32_2 k0_87 (s32_5 (s32_6 (s32_7 k0_87 (s32_10 (s32_11 (s32_12 (s32_13 (s32_14 k0_87 (Nat.le_of_ble_eq_true rfl) (w_34 k.1 (have k := k.2; am_aft (s32_17 k0_87 (s32_20 (s32_21 rfl (k))))))))))))))))
def w87 (I I' : Nat → Nat → Int32) : Prop := ∀ a k, ¬ (a = 87 ∧ (k = 7 ∨ k = 8)) → I' a k = I a k
theorem w87.rf {I : Nat → Nat → Int32} : w87 I I := fun _ _ _ => rfl
theorem w87.sm {I I' : Nat → Nat → Int32} (h : w87 I I') : sm I I' := fun a k q => h a k (fun p => q (by unfold Sc; omega))
theorem w87.tr {I I' I'' : Nat → Nat → Int32} (h : w87 I I') (h' : w87 I' I'') : w87 I I'' := fun a k q => (h' a k q).trans (h a k q)
theorem w87.bok {I I' : Nat → Nat → Int32} (h : w87 I I') : bk I' = bk I := by
  unfold bk
  rw [h 35 2 (by omega)]
theorem ctn_cg {I I' : Nat → Nat → Int32} (h1 : ∀ r, I' 41 r = I 41 r) (h2 : ∀ r, I' 42 r = I 42 r) (c : Int64) (t : Int32) : ∀ m, ctn I' c t m = ctn I c t m := by
  intro m
  induction m with
  | zero => rfl
  | succ m ih =>
    show ctn I' c t m + (if cth I' c t m = true then 1 else 0) = ctn I c t m + (if cth I c t m = true then 1 else 0)
    have e : cth I' c t m = cth I c t m := by
      unfold cth
      rw [h1, h2]
    rw [ih, e]
theorem w87.ct {I I' : Nat → Nat → Int32} (h : w87 I I') (c : Int64) (t : Int32) : ctn I' c t (bk I') = ctn I c t (bk I) := by
  rw [h.bok]
  exact ctn_cg (fun r => h 41 r (by omega)) (fun r => h 42 r (by omega)) c t _
/-- a time is tried -/
def tst (C : Int32 → Nat) (p : Nat × Int32) (u : Int32) : Nat × Int32 := if u ≤ 1000000 then (if p.1 < C u then (C u, u) else if C u = p.1 then (if p.2 ≤ u then p else (C u, u)) else p) else p
theorem tst_le {C : Int32 → Nat} {p : Nat × Int32} {u : Int32} (hC : ∀ u, C u ≤ 40) (hp : p.1 ≤ 40) : (tst C p u).1 ≤ 40 := by
  unfold tst
  split
  · split
    · exact hC u
    · split
      · split
        · exact hp
        · exact hC u
      · exact hp
  · exact hp
def Cn (I : Nat → Nat → Int32) (c : Int64) (u : Int32) : Nat := ctn I c u (bk I)
theorem w87.cn {I I' : Nat → Nat → Int32} (h : w87 I I') (c : Int64) : Cn I' c = Cn I c := funext fun u => h.ct c u
theorem Cn_le {I : Nat → Nat → Int32} (hI : Inv I) (c : Int64) (u : Int32) : Cn I c u ≤ 40 := Nat.le_trans (ctn_le I c u _) hI.book.2
def p33 (I : Nat → Nat → Int32) : Prop := Inv I ∧ ∃ n : Nat, n ≤ 40 ∧ I 87 7 = Int32.ofInt (n : Int)
def t33 (I I' : Nat → Nat → Int32) (c : Int64) (u : Int32) : Prop := w87 I I' ∧ ∀ n : Nat, n ≤ 40 → I 87 7 = Int32.ofInt (n : Int) → I' 87 7 = Int32.ofInt ((tst (Cn I c) (n, I 87 8) u).1 : Int) ∧ I' 87 8 = (tst (Cn I c) (n, I 87 8) u).2
theorem w_33 {X : am_X} {d : Nat} {I : Nat → Nat → Int32} {J : Nat → Nat → Int64} {Q : Option Value → am_M → Prop} {x0 : Int64} {x1 : Int32} (h : p33 I) (k : ∀ I', t33 I I' x0 x1 → Q none (am_N I' J)) : am_wp X (d + 1) 33 0 [.ref 87, .long x0, am_uv, .int x1, am_uv] [] (am_N I J) Q := by
  obtain ⟨hI, n, hn, h7⟩ := h
  have un : ∀ n' : Nat, n' ≤ 40 → I 87 7 = Int32.ofInt (n' : Int) → n' = n := by
    intro n' l e
    have := (oi_eq (by omega) (by omega)).mp (h7.symm.trans e)
    omega
  have stay : tst (Cn I x0) (n, I 87 8) x1 = (n, I 87 8) → Q none (am_N I J) := by
    intro e
    refine k I ⟨w87.rf, fun n' l e' => ?_⟩
    rw [un n' l e', e]
    exact ⟨h7, rfl⟩
  have go : tst (Cn I x0) (n, I 87 8) x1 = (Cn I x0 x1, x1) → Q none (am_N (am_up (am_up I 87 7 (Int32.ofInt (ctn I x0 x1 (bk I) : Int))) 87 8 x1) J) := by
    intro e
    refine k _ ⟨fun a j q => ?_, fun n' l e' => ?_⟩
    · rw [am_upv, if_neg (by omega), am_upv, if_neg (by omega)]
    · rw [un n' l e', e, am_upv, if_neg (by omega), am_upv, if_pos (by omega), am_upv, if_pos (by omega)]
      exact ⟨rfl, rfl⟩
  have lc := Cn_le hI x0 x1
  have ec : ctn I x0 x1 (bk I) = Cn I x0 x1 := rfl
  refine c_33 ⟨fun q => ⟨hI, fun p => go ?_, fun p => ⟨fun z => ⟨fun y => stay ?_, fun y => go ?_⟩, fun z => stay ?_⟩⟩, fun q => stay ?_⟩
  · rw [h7, ec, oi_lt (by omega) (by omega)] at p
    unfold tst
    rw [if_pos q, if_pos (show n < Cn I x0 x1 by omega)]
  · rw [h7, ec, oi_lt (by omega) (by omega)] at p
    rw [h7, ec, oi_eq (by omega) (by omega)] at z
    unfold tst
    rw [if_pos q, if_neg (show ¬ n < Cn I x0 x1 by omega), if_pos (show Cn I x0 x1 = n by omega), if_pos y]
  · rw [h7, ec, oi_lt (by omega) (by omega)] at p
    rw [h7, ec, oi_eq (by omega) (by omega)] at z
    unfold tst
    rw [if_pos q, if_neg (show ¬ n < Cn I x0 x1 by omega), if_pos (show Cn I x0 x1 = n by omega), if_neg y]
  · rw [h7, ec, oi_lt (by omega) (by omega)] at p
    rw [h7, ec, oi_eq (by omega) (by omega)] at z
    unfold tst
    rw [if_pos q, if_neg (show ¬ n < Cn I x0 x1 by omega), if_neg (show ¬ Cn I x0 x1 = n by omega)]
  · unfold tst
    rw [if_neg q]
def tfo (I : Nat → Nat → Int32) (c : Int64) : Nat → Nat × Int32
  | 0 => (Cn I c 0, 0)
  | m + 1 => if tl c m = true then tst (Cn I c) (tfo I c m) (I 41 m) else tfo I c m
theorem tfo_le {I : Nat → Nat → Int32} (hI : Inv I) (c : Int64) : ∀ m, (tfo I c m).1 ≤ 40 := by
  intro m
  induction m with
  | zero => exact Cn_le hI c 0
  | succ m ih =>
    show (if tl c m = true then tst (Cn I c) (tfo I c m) (I 41 m) else tfo I c m).1 ≤ 40
    split
    · exact tst_le (Cn_le hI c) ih
    · exact ih
theorem c_32_22 {X : am_X} {d : Nat} {I : Nat → Nat → Int32} {J : Nat → Nat → Int64} {Q : Option Value → am_M → Prop} {x0 : Int64} {m : Int32} (k : (((I 35 2) ≤ m → Q none (am_N I J)) ∧ (¬ (I 35 2) ≤ m → (((lg_cmp ((am_lshr x0 m) &&& 1) 1) = 0 → (am_ix m 40 ∧ (p33 I ∧ ∀ (I3216 : Nat → Nat → Int32), t33 I I3216 x0 (I 41 (Int32.toNatClampNeg m)) → am_wp X (d + 2) 32 22 [.ref 87, .long x0, am_uv, .int (m + 1)] [] (am_N I3216 J) Q))) ∧ (¬ (lg_cmp ((am_lshr x0 m) &&& 1) 1) = 0 → am_wp X (d + 2) 32 22 [.ref 87, .long x0, am_uv, .int (m + 1)] [] (am_N I J) Q))))) : am_wp X (d + 2) 32 22 [.ref 87, .long x0, am_uv, .int m] [] (am_N I J) Q := s32_22 (s32_23 (s32_24 k0_87 p0_87_0 (s32_27 k0_35 (s32_30 (fun h3213 => have k := k.1 h3213; s32_63 (k)) (fun h3213 => have k := k.2 h3213; s32_33 (s32_34 (s32_35 (s32_36 (s32_37 (s32_38 (s32_39 (s32_40 (fun h3214 => have k := k.1 h3214; s32_43 (s32_44 (s32_45 (s32_46 k0_87 p0_87_0 (s32_49 k0_35 p0_35_7 (s32_52 (have b3215 := k.1; have k := k.2; s32_53 k0_41 b3215 (s32_54 k0_87 (Nat.le_of_ble_eq_true rfl) (w_33 k.1 (fun I3216 h1 => have k := k.2 I3216 h1; am_aft0 (s32_57 rfl (s32_60 (k))))))))))))) (fun h3214 => have k := k.2 h3214; s32_57 rfl (s32_60 (k)))))))))))))))
def t32 (I I' : Nat → Nat → Int32) (c : Int64) : Prop := w87 I I' ∧ I' 87 7 = Int32.ofInt ((tfo I c (bk I)).1 : Int) ∧ I' 87 8 = (tfo I c (bk I)).2
theorem w_32 {X : am_X} {d : Nat} {I : Nat → Nat → Int32} {J : Nat → Nat → Int64} {Q : Option Value → am_M → Prop} {x0 : Int64} (hI : Inv I) (k : ∀ I', t32 I I' x0 → Q none (am_N I' (am_up J 87 6 x0))) : am_wp X (d + 2) 32 0 [.ref 87, .long x0, am_uv, am_uv] [] (am_N I J) Q := by
  obtain ⟨e35, l40⟩ := hI.book
  have s0 : w87 I (am_up I 87 8 0) := fun a j q => by rw [am_upv, if_neg (by omega)]
  refine c_32 ⟨hI.sm s0.sm, ?_⟩
  rw [s0.ct]
  refine am_down (N := bk I) (P := fun m => ∀ I' : Nat → Nat → Int32, w87 I I' → I' 87 7 = Int32.ofInt ((tfo I x0 m).1 : Int) → I' 87 8 = (tfo I x0 m).2 → am_wp X (d + 2) 32 22 [.ref 87, .long x0, am_uv, .int (Int32.ofInt (m : Int))] [] (am_N I' (am_up J 87 6 x0)) Q) ?_ ?_ 0 (by omega) _ (fun a j q => by rw [am_upv, if_neg (by omega)]; exact s0 a j q) ?_ ?_
  · intro I' hs h7 h8
    exact c_32_22 ⟨fun _ => k I' ⟨hs, h7, h8⟩, fun q => absurd (by rw [hs 35 2 (by omega), e35]; exact Int32.le_refl _) q⟩
  · intro m hm ih I' hs h7 h8
    have ix : am_ix (Int32.ofInt (m : Int)) 40 := oi_ix (by omega) (by omega) (by omega)
    have le := tfo_le hI x0 m
    have st : tfo I x0 (m + 1) = if tl x0 m = true then tst (Cn I x0) (tfo I x0 m) (I 41 m) else tfo I x0 m := rfl
    refine c_32_22 ⟨fun q => absurd q (by rw [hs 35 2 (by omega), e35, oi_le (by omega) (by omega)]; omega), fun _ => ?_⟩
    rw [oi_cln (by omega), oi_succ, tl_test _ (by omega)]
    refine ⟨fun q => ⟨ix, ⟨hI.sm hs.sm, _, le, h7⟩, fun I1 h1 => ?_⟩, fun q => ?_⟩
    · obtain ⟨e7, e8⟩ := h1.2 _ le h7
      rw [hs.cn, h8, hs 41 m (by omega)] at e7 e8
      rw [if_pos q] at st
      exact ih I1 (hs.tr h1.1) (by rw [st]; exact e7) (by rw [st]; exact e8)
    · rw [if_neg q] at st
      exact ih I' hs (by rw [st]; exact h7) (by rw [st]; exact h8)
  · rw [am_upv, if_pos (by omega)]
    rfl
  · rw [am_upv, if_neg (by omega), am_upv, if_pos (by omega)]
    rfl
