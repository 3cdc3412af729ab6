theorem c_204 {X : am_X} {d : Nat} {I : Nat → Nat → Int32} {J : Nat → Nat → Int64} {Q : Option Value → am_M → Prop} (k : (Inv (am_up I 105 47 0) ∧ am_wp X (d + 5) 204 16 [.ref 105, .int 0, am_uv, am_uv, am_uv] [] (am_N (am_up (am_up I 105 47 0) 105 46 (Int32.ofInt (wn (am_up I 105 47 0) 0 : Int))) J) Q)) : am_wp X (d + 5) 204 0 [.ref 105, am_uv, am_uv, am_uv, am_uv] [] (am_N I J) Q := s204_0 (s204_1 (s204_2 k0_105 (s204_5 (s204_6 (s204_7 (s204_8 k0_105 (Nat.le_of_ble_eq_true rfl) (w_203 k.1 (have k := k.2; am_aft (s204_11 k0_105 (s204_14 (s204_15 rfl (k))))))))))))
theorem c_204_16 {X : am_X} {d : Nat} {I : Nat → Nat → Int32} {J : Nat → Nat → Int64} {Q : Option Value → am_M → Prop} {m : Int32} {u2 : Value} (hu2 : u2.category = 1) {u3 : Value} (hu3 : u3.category = 1) {u4 : Value} (hu4 : u4.category = 1) (k : (((I 105 26) ≤ m → Q none (am_N I J)) ∧ (¬ (I 105 26) ≤ m → ((am_ix m 40 ∧ am_ix (I 129 (Int32.toNatClampNeg m)) 8) ∧ (am_ix m 40 ∧ (((I 132 (Int32.toNatClampNeg m)) = 0 → (am_ix m 40 ∧ (((I 128 (Int32.toNatClampNeg m)) = 2 → ((am_ix m 40 ∧ p191 I (Int32.toNatClampNeg m)) ∧ (((bz (rr_is I (Int32.toNatClampNeg m))) = 0 → am_wp X (d + 5) 204 16 [.ref 105, .int (m + 1), .int (rr_fr I (Int32.toNatClampNeg m)), .int 0, u4] [] (am_N I J) Q) ∧ (¬ (bz (rr_is I (Int32.toNatClampNeg m))) = 0 → (((v_within (rr_fr I (Int32.toNatClampNeg m)) 1 1000000) = 0 → am_wp X (d + 5) 204 16 [.ref 105, .int (m + 1), .int (rr_fr I (Int32.toNatClampNeg m)), .int 0, u4] [] (am_N I J) Q) ∧ (¬ (v_within (rr_fr I (Int32.toNatClampNeg m)) 1 1000000) = 0 → (Inv I ∧ (((Int32.ofInt (wn I (rr_fr I (Int32.toNatClampNeg m)) : Int)) < (I 105 46) → am_wp X (d + 5) 204 16 [.ref 105, .int (m + 1), .int (rr_fr I (Int32.toNatClampNeg m)), .int 1, .int (Int32.ofInt (wn I (rr_fr I (Int32.toNatClampNeg m)) : Int))] [] (am_N (am_up (am_up I 105 46 (Int32.ofInt (wn I (rr_fr I (Int32.toNatClampNeg m)) : Int))) 105 47 (rr_fr I (Int32.toNatClampNeg m))) J) Q) ∧ (¬ (Int32.ofInt (wn I (rr_fr I (Int32.toNatClampNeg m)) : Int)) < (I 105 46) → (((Int32.ofInt (wn I (rr_fr I (Int32.toNatClampNeg m)) : Int)) = (I 105 46) → (((I 105 47) ≤ (rr_fr I (Int32.toNatClampNeg m)) → am_wp X (d + 5) 204 16 [.ref 105, .int (m + 1), .int (rr_fr I (Int32.toNatClampNeg m)), .int 1, .int (Int32.ofInt (wn I (rr_fr I (Int32.toNatClampNeg m)) : Int))] [] (am_N I J) Q) ∧ (¬ (I 105 47) ≤ (rr_fr I (Int32.toNatClampNeg m)) → am_wp X (d + 5) 204 16 [.ref 105, .int (m + 1), .int (rr_fr I (Int32.toNatClampNeg m)), .int 1, .int (Int32.ofInt (wn I (rr_fr I (Int32.toNatClampNeg m)) : Int))] [] (am_N (am_up (am_up I 105 46 (Int32.ofInt (wn I (rr_fr I (Int32.toNatClampNeg m)) : Int))) 105 47 (rr_fr I (Int32.toNatClampNeg m))) J) Q))) ∧ (¬ (Int32.ofInt (wn I (rr_fr I (Int32.toNatClampNeg m)) : Int)) = (I 105 46) → am_wp X (d + 5) 204 16 [.ref 105, .int (m + 1), .int (rr_fr I (Int32.toNatClampNeg m)), .int 1, .int (Int32.ofInt (wn I (rr_fr I (Int32.toNatClampNeg m)) : Int))] [] (am_N I J) Q))))))))))) ∧ (¬ (I 128 (Int32.toNatClampNeg m)) = 2 → am_wp X (d + 5) 204 16 [.ref 105, .int (m + 1), .int (rr_fr I (Int32.toNatClampNeg m)), .int 0, u4] [] (am_N I J) Q)))) ∧ (¬ (I 132 (Int32.toNatClampNeg m)) = 0 → am_wp X (d + 5) 204 16 [.ref 105, .int (m + 1), .int (rr_fr I (Int32.toNatClampNeg m)), .int 0, u4] [] (am_N I J) Q))))))) : am_wp X (d + 5) 204 16 [.ref 105, .int m, u2, u3, u4] [] (am_N I J) Q := s204_16 (s204_17 (s204_18 k0_105 (s204_21 (fun h3248 => have k := k.1 h3248; s204_130 (k)) (fun h3248 => have k := k.2 h3248; s204_24 (s204_25 (s204_26 k0_105 (Nat.le_of_ble_eq_true rfl) (w_192 k.1.1 k.1.2 (have k := k.2; am_aft (s204_29 rfl (s204_30 (s204_31 k0_105 p0_105_31 (s204_34 (have b3249 := k.1; have k := k.2; s204_35 k0_132 b3249 (s204_36 (fun h3250 => have k := k.1 h3250; s204_39 (s204_40 k0_105 p0_105_27 (s204_43 (have b3251 := k.1; have k := k.2; s204_44 k0_128 b3251 (s204_45 (s204_46 (fun h3252 => have k := k.1 h3252; s204_49 (s204_50 (s204_51 k0_105 (Nat.le_of_ble_eq_true rfl) (w_191 k.1.1 k.1.2 (have k := k.2; am_aft (s204_54 (fun h3253 => have k := k.1 h3253; s204_71 (s204_72 rfl (s204_73 (s204_74 (fun _ => s204_77 (s204_124 rfl (s204_127 (k)))) (fun h => absurd (show (0 : Int32) = 0 by decide) h))))) (fun h3253 => have k := k.2 h3253; s204_57 (s204_58 (s204_59 (s204_61 (Nat.le_of_ble_eq_true rfl) (w_within (am_aft (s204_64 (fun h3255 => have k := k.1 h3255; s204_71 (s204_72 rfl (s204_73 (s204_74 (fun _ => s204_77 (s204_124 rfl (s204_127 (k)))) (fun h => absurd (show (0 : Int32) = 0 by decide) h))))) (fun h3255 => have k := k.2 h3255; s204_67 (s204_68 (s204_72 rfl (s204_73 (s204_74 (fun h => absurd h (show ¬ (1 : Int32) = 0 by decide)) (fun _ => s204_80 (s204_81 (s204_82 k0_105 (Nat.le_of_ble_eq_true rfl) (w_203 k.1 (have k := k.2; am_aft (s204_85 rfl (s204_87 (s204_89 (s204_90 k0_105 (s204_93 (fun h3258 => have k := k.1 h3258; s204_113 (s204_114 (s204_116 k0_105 (s204_119 (s204_120 (s204_121 k0_105 (s204_124 rfl (s204_127 (k))))))))) (fun h3258 => have k := k.2 h3258; s204_96 (s204_98 (s204_99 k0_105 (s204_102 (fun h3259 => have k := k.1 h3259; s204_105 (s204_106 (s204_107 k0_105 (s204_110 (fun h3260 => have k := k.1 h3260; s204_124 rfl (s204_127 (k))) (fun h3260 => have k := k.2 h3260; s204_113 (s204_114 (s204_116 k0_105 (s204_119 (s204_120 (s204_121 k0_105 (s204_124 rfl (s204_127 (k))))))))))))) (fun h3259 => have k := k.2 h3259; s204_124 rfl (s204_127 (k))))))))))))))))))))))))))))))))))) (fun h3252 => have k := k.2 h3252; s204_71 (s204_72 rfl (s204_73 (s204_74 (fun _ => s204_77 (s204_124 rfl (s204_127 (k)))) (fun h => absurd (show (0 : Int32) = 0 by decide) h))))))))))) (fun h3250 => have k := k.2 h3250; s204_71 (s204_72 rfl (s204_73 (s204_74 (fun _ => s204_77 (s204_124 rfl (s204_127 (k)))) (fun h => absurd (show (0 : Int32) = 0 by decide) h)))))))))))))))))))
def w46 (I I' : Nat → Nat → Int32) : Prop := ∀ a k, ¬ (a = 105 ∧ (k = 46 ∨ k = 47)) → I' a k = I a k
theorem w46.rf {I : Nat → Nat → Int32} : w46 I I := fun _ _ _ => rfl
theorem w46.sm {I I' : Nat → Nat → Int32} (h : w46 I I') : sm I I' := fun a k q => h a k (fun p => q (by unfold Sc; omega))
theorem w46.fn {I I' : Nat → Nat → Int32} (h : w46 I I') {a : Nat} (ha : ¬ a = 105) : I' a = I a := funext fun k => h a k (by omega)
theorem w46.r {I I' : Nat → Nat → Int32} (h : w46 I I') (r : Nat) : rr_is I' r = rr_is I r ∧ rr_fr I' r = rr_fr I r ∧ rr_tl I' r = rr_tl I r := by
  unfold rr_is rr_fr rr_tl rr_h rr_p
  rw [h.fn (a := 128) (by omega), h.fn (a := 129) (by omega), h.fn (a := 130) (by omega), h.fn (a := 131) (by omega), h.fn (a := 133) (by omega), h.fn (a := 134) (by omega), h.fn (a := 109) (by omega), h.fn (a := 110) (by omega), h.fn (a := 115) (by omega), h.fn (a := 116) (by omega), h.fn (a := 111) (by omega), h.fn (a := 112) (by omega), h.fn (a := 135) (by omega)]
  exact ⟨rfl, rfl, rfl⟩
theorem w46.bok {I I' : Nat → Nat → Int32} (h : w46 I I') : bk I' = bk I := by
  unfold bk
  rw [h 35 2 (by omega)]
theorem w46.wn {I I' : Nat → Nat → Int32} (h : w46 I I') (t : Int32) : wn I' t = wn I t := by
  have e : (fun r => wrb I' r t) = fun r => wrb I r t := by
    funext r
    obtain ⟨e1, e2, e3⟩ := h.r r
    unfold wrb
    rw [e1, e2, e3, h 132 r (by omega), h 128 r (by omega)]
  show cntB (fun r => wrb I' r t) (bk I') = cntB (fun r => wrb I r t) (bk I)
  rw [e, h.bok]
def rst (W : Int32 → Nat) (p : Nat × Int32) (u : Int32) : Nat × Int32 := if W u < p.1 then (W u, u) else if W u = p.1 then (if p.2 ≤ u then p else (W u, u)) else p
abbrev ask (I : Nat → Nat → Int32) (r : Nat) : Prop := I 132 r = 0 ∧ I 128 r = 2 ∧ rr_is I r = true ∧ ¬ v_within (rr_fr I r) 1 1000000 = 0
def rfo (I : Nat → Nat → Int32) : Nat → Nat × Int32
  | 0 => (wn I 0, 0)
  | m + 1 => if ask I m then rst (wn I) (rfo I m) (rr_fr I m) else rfo I m
theorem rfo_le {I : Nat → Nat → Int32} (hI : Inv I) : ∀ m, (rfo I m).1 ≤ 40 := by
  intro m
  induction m with
  | zero => exact wn_40 hI 0
  | succ m ih =>
    show (if ask I m then rst (wn I) (rfo I m) (rr_fr I m) else rfo I m).1 ≤ 40
    unfold rst
    split
    · split
      · exact wn_40 hI _
      · split
        · split
          · exact ih
          · exact wn_40 hI _
        · exact ih
    · exact ih
def t204 (I I' : Nat → Nat → Int32) : Prop := w46 I I' ∧ I' 105 46 = Int32.ofInt ((rfo I (bk I)).1 : Int) ∧ I' 105 47 = (rfo I (bk I)).2
theorem w_204 {X : am_X} {d : Nat} {I : Nat → Nat → Int32} {J : Nat → Nat → Int64} {Q : Option Value → am_M → Prop} (hI : Inv I) (k : ∀ I', t204 I I' → Q none (am_N I' J)) : am_wp X (d + 5) 204 0 [.ref 105, am_uv, am_uv, am_uv, am_uv] [] (am_N I J) Q := by
  have e26 := hI.b26
  have l40 := hI.book.2
  have s0 : w46 I (am_up I 105 47 0) := fun a j q => by rw [am_upv, if_neg (by omega)]
  refine c_204 ⟨hI.sm s0.sm, ?_⟩
  rw [s0.wn]
  refine am_down (N := bk I) (P := fun m => ∀ (u2 u3 u4 : Value) (I' : Nat → Nat → Int32), u2.category = 1 → u3.category = 1 → u4.category = 1 → w46 I I' → I' 105 46 = Int32.ofInt ((rfo I m).1 : Int) → I' 105 47 = (rfo I m).2 → am_wp X (d + 5) 204 16 [.ref 105, .int (Int32.ofInt (m : Int)), u2, u3, u4] [] (am_N I' J) Q) ?_ ?_ 0 (by omega) am_uv am_uv am_uv _ rfl rfl rfl (fun a j q => by rw [am_upv, if_neg (by omega)]; exact s0 a j q) ?_ ?_
  · intro u2 u3 u4 I' h2 h3 h4 hs h46 h47
    exact c_204_16 h2 h3 h4 ⟨fun _ => k I' ⟨hs, h46, h47⟩, fun q => absurd (by rw [hs 105 26 (by omega), e26]; exact Int32.le_refl _) q⟩
  · intro m hm ih u2 u3 u4 I' h2 h3 h4 hs h46 h47
    have hI' : Inv I' := hI.sm hs.sm
    have ix : am_ix (Int32.ofInt (m : Int)) 40 := oi_ix (by omega) (by omega) (by omega)
    have p := hI'.p191 ix
    have hh : am_ix (I' 129 (Int32.toNatClampNeg (Int32.ofInt (m : Int)))) 8 := hI'.ixMH (am_ix_lt ix)
    rw [oi_cln (by omega)] at p hh
    have le := rfo_le hI m
    have lw := wn_40 hI (rr_fr I m)
    obtain ⟨e1, e2, e3⟩ := hs.r m
    have st : rfo I (m + 1) = if ask I m then rst (wn I) (rfo I m) (rr_fr I m) else rfo I m := rfl
    refine c_204_16 h2 h3 h4 ⟨fun q => absurd q (by rw [hs 105 26 (by omega), e26, oi_le (by omega) (by omega)]; omega), fun _ => ?_⟩
    rw [oi_cln (by omega), oi_succ, e1, e2, hs 132 m (by omega), hs 128 m (by omega), hs.wn, h46, h47, oi_lt (by omega) (by omega), oi_eq (by omega) (by omega), bz_0]
    have no : ¬ ask I m → ∀ (u2 u3 u4 : Value), u2.category = 1 → u3.category = 1 → u4.category = 1 → am_wp X (d + 5) 204 16 [.ref 105, .int (Int32.ofInt ((m + 1 : Nat) : Int)), u2, u3, u4] [] (am_N I' J) Q := by
      intro q u2 u3 u4 c2 c3 c4
      rw [if_neg q] at st
      exact ih u2 u3 u4 I' c2 c3 c4 hs (by rw [st]; exact h46) (by rw [st]; exact h47)
    refine ⟨⟨ix, hh⟩, ix, fun a => ⟨ix, fun b => ⟨⟨ix, p⟩, fun c => no (fun q => ?_) _ _ _ rfl rfl h4, fun c => ⟨fun e => no (fun q => q.2.2.2 e) _ _ _ rfl rfl h4, fun e => ⟨hI', ?_⟩⟩⟩, fun b => no (fun q => b q.2.1) _ _ _ rfl rfl h4⟩, fun a => no (fun q => a q.1) _ _ _ rfl rfl h4⟩
    · have z := q.2.2.1
      rw [c] at z
      cases z
    · have ya : ask I m := ⟨a, b, (Bool.not_eq_false _).mp c, e⟩
      rw [if_pos ya] at st
      have stay : rst (wn I) (rfo I m) (rr_fr I m) = rfo I m → am_wp X (d + 5) 204 16 [.ref 105, .int (Int32.ofInt ((m + 1 : Nat) : Int)), .int (rr_fr I m), .int 1, .int (Int32.ofInt (wn I (rr_fr I m) : Int))] [] (am_N I' J) Q := by
        intro q
        rw [q] at st
        exact ih _ _ _ I' rfl rfl rfl hs (by rw [st]; exact h46) (by rw [st]; exact h47)
      have go : rst (wn I) (rfo I m) (rr_fr I m) = (wn I (rr_fr I m), rr_fr I m) → am_wp X (d + 5) 204 16 [.ref 105, .int (Int32.ofInt ((m + 1 : Nat) : Int)), .int (rr_fr I m), .int 1, .int (Int32.ofInt (wn I (rr_fr I m) : Int))] [] (am_N (am_up (am_up I' 105 46 (Int32.ofInt (wn I (rr_fr I m) : Int))) 105 47 (rr_fr I m)) J) Q := by
        intro q
        rw [q] at st
        refine ih _ _ _ _ rfl rfl rfl (fun a j z => ?_) ?_ ?_
        · rw [am_upv, if_neg (by omega), am_upv, if_neg (by omega)]
          exact hs a j z
        · rw [am_upv, if_neg (by omega), am_upv, if_pos (by omega), st]
        · rw [am_upv, if_pos (by omega), st]
      refine ⟨fun q => go ?_, fun q => ⟨fun z => ⟨fun y => stay ?_, fun y => go ?_⟩, fun z => stay ?_⟩⟩
      · unfold rst
        rw [if_pos (by omega)]
      · unfold rst
        rw [if_neg (by omega), if_pos (by omega), if_pos y]
      · unfold rst
        rw [if_neg (by omega), if_pos (by omega), if_neg y]
      · unfold rst
        rw [if_neg (by omega), if_neg (by omega)]
  · rw [am_upv, if_pos (by omega)]
    rfl
  · rw [am_upv, if_neg (by omega), am_upv, if_pos (by omega)]
    rfl
