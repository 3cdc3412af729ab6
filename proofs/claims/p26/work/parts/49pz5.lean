theorem c2_216 {X : am_X} {d : Nat} {I : Nat → Nat → Int32} {J : Nat → Nat → Int64} {Q : Option Value → am_M → Prop} {x0 : Int32} {x1 : Int32} (k : (((v_m_isForce x0) = 0 → Q (some (.int (-2))) (am_N I J)) ∧ (¬ (v_m_isForce x0) = 0 → (((v_within x1 0 2) = 0 → Q (some (.int (-2))) (am_N I J)) ∧ (¬ (v_within x1 0 2) = 0 → ((Inv I ∧ Wf I) ∧ ∀ (I3236 : Nat → Nat → Int32), fl I I3236 → (((I3236 105 43) = 0 → Q (some (.int (-3))) (am_N I3236 J)) ∧ (¬ (I3236 105 43) = 0 → (∀ (I3238 : Nat → Nat → Int32), tw I3236 I3238 → am_wp X (d + 5) 216 46 [.ref 105, .int x0, .int x1, .int 0, am_uv, am_uv] [] (am_N (am_up I3238 105 54 13825) J) Q))))))))) : am_wp X (d + 5) 216 0 [.ref 105, .int x0, .int x1, am_uv, am_uv, am_uv] [] (am_N I J) Q := s216_0 (s216_1 (Nat.le_of_ble_eq_true rfl) (w_m_isForce (am_aft (s216_4 (fun h3234 => have k := k.1 h3234; s216_16 (s216_18 (k))) (fun h3234 => have k := k.2 h3234; s216_7 (s216_8 (s216_9 (s216_10 (Nat.le_of_ble_eq_true rfl) (w_within (am_aft (s216_13 (fun h3235 => have k := k.1 h3235; s216_16 (s216_18 (k))) (fun h3235 => have k := k.2 h3235; s216_19 (s216_20 k0_105 (Nat.le_of_ble_eq_true rfl) (w_195 k.1.1 k.1.2 (fun I3236 h1 => have k := k.2 I3236 h1; am_aft0 (s216_23 (s216_24 k0_105 (s216_27 (fun h3237 => have k := k.1 h3237; s216_30 (s216_32 (k))) (fun h3237 => have k := k.2 h3237; s216_33 (s216_34 k0_105 (Nat.le_of_ble_eq_true rfl) (w_214 (fun I3238 h1 => have k := k I3238 h1; am_aft0 (s216_37 (s216_38 (s216_41 k0_105 (s216_44 (s216_45 rfl (k))))))))))))))))))))))))))))
theorem c2_216_46 {X : am_X} {d : Nat} {I : Nat → Nat → Int32} {J : Nat → Nat → Int64} {Q : Option Value → am_M → Prop} {x0 x1 a : Int32} {u4 : Value} (hu4 : u4.category = 1) {u5 : Value} (hu5 : u5.category = 1) (k : ((12 ≤ a → ((x1 = 0 → Q (some (.int (I 105 52))) (am_N I J)) ∧ (¬ x1 = 0 → ((x1 = 1 → Q (some (.int (I 105 53))) (am_N I J)) ∧ (¬ x1 = 1 → Q (some (.int (I 105 54))) (am_N I J)))))) ∧ (¬ 12 ≤ a → am_wp X (d + 5) 216 55 [.ref 105, .int x0, .int x1, .int a, .int 0, u5] [] (am_N I J) Q))) : am_wp X (d + 5) 216 46 [.ref 105, .int x0, .int x1, .int a, u4, u5] [] (am_N I J) Q := s216_46 (s216_47 (s216_49 (fun h3239 => have k := k.1 h3239; s216_110 (s216_111 (fun h3240 => have k := k.1 h3240; s216_114 (s216_115 k0_105 (s216_118 (s216_137 (k))))) (fun h3240 => have k := k.2 h3240; s216_121 (s216_122 (s216_123 (fun h3241 => have k := k.1 h3241; s216_126 (s216_127 k0_105 (s216_130 (s216_137 (k))))) (fun h3241 => have k := k.2 h3241; s216_133 (s216_134 k0_105 (s216_137 (k))))))))) (fun h3239 => have k := k.2 h3239; s216_52 (s216_53 rfl (k)))))
theorem c2_216_55 {X : am_X} {d : Nat} {I : Nat → Nat → Int32} {J : Nat → Nat → Int64} {Q : Option Value → am_M → Prop} {I0 : Nat → Nat → Int32} {x0 x1 a b : Int32} {u5 : Value} (hu5 : u5.category = 1) (k : ((12 ≤ b → am_wp X (d + 5) 216 46 [.ref 105, .int x0, .int x1, .int (a + 1), .int b, u5] [] (am_N I J) Q) ∧ (¬ 12 ≤ b → (p215 I0 I a b x0 ∧ ∀ (I3243 : Nat → Nat → Int32), t215 I I3243 → (((I3243 105 54) ≤ (Rw I0 a b x0) → am_wp X (d + 5) 216 55 [.ref 105, .int x0, .int x1, .int a, .int (b + 1), .int (Rw I0 a b x0)] [] (am_N I3243 J) Q) ∧ (¬ (I3243 105 54) ≤ (Rw I0 a b x0) → am_wp X (d + 5) 216 55 [.ref 105, .int x0, .int x1, .int a, .int (b + 1), .int (Rw I0 a b x0)] [] (am_N (am_up (am_up (am_up I3243 105 54 (Rw I0 a b x0)) 105 52 a) 105 53 b) J) Q)))))) : am_wp X (d + 5) 216 55 [.ref 105, .int x0, .int x1, .int a, .int b, u5] [] (am_N I J) Q := s216_55 (s216_57 (s216_59 (fun h3242 => have k := k.1 h3242; s216_104 rfl (s216_107 (k))) (fun h3242 => have k := k.2 h3242; s216_62 (s216_63 (s216_64 (s216_66 (s216_67 k0_105 (Nat.le_of_ble_eq_true rfl) (w_215 k.1 (fun I3243 h1 => have k := k.2 I3243 h1; am_aft (s216_70 rfl (s216_72 (s216_74 (s216_75 k0_105 (s216_78 (fun h3244 => have k := k.1 h3244; s216_98 rfl (s216_101 (k))) (fun h3244 => have k := k.2 h3244; s216_81 (s216_82 (s216_84 k0_105 (s216_87 (s216_88 (s216_89 k0_105 (s216_92 (s216_93 (s216_95 k0_105 (s216_98 rfl (s216_101 (k))))))))))))))))))))))))))
theorem Inv.o138 {I I' : Nat → Nat → Int32} (hI : Inv I) (h : ∀ a k, ¬ a = 138 → I' a k = I a k) : Inv I' := by
  obtain ⟨h1, h2, h3, h4, h5, h6, h7, h8, h9, h10, h11⟩ := hI
  have e : ∀ {a k : Nat}, a ≠ 138 → I' a k = I a k := fun hh => h _ _ hh
  refine ⟨?_, fun q hq => ?_, fun q j hq hj => ?_, ?_, fun q hq => ?_, ?_, fun q hq => ?_, fun q hq => ?_, fun q j hq hj => ?_, ?_, ?_⟩
  · unfold R_land at h1 ⊢
    rw [e (a := 1) (k := 1) (by omega), e (a := 105) (k := 2) (by omega)]
    exact h1
  · have g := h2 q hq
    unfold R_house at g ⊢
    rw [e (a := 3 + 4 * q) (k := 0) (by omega), e (a := 3 + 4 * q) (k := 1) (by omega), e (a := 3 + 4 * q) (k := 2) (by omega), e (a := 3 + 4 * q) (k := 3) (by omega), e (a := 3 + 4 * q) (k := 4) (by omega), e (a := 3 + 4 * q) (k := 5) (by omega), e (a := 3 + 4 * q) (k := 6) (by omega), e (a := 3 + 4 * q) (k := 7) (by omega), e (a := 3 + 4 * q) (k := 8) (by omega), e (a := 3 + 4 * q) (k := 9) (by omega), e (a := 3 + 4 * q) (k := 10) (by omega), e (a := 3 + 4 * q) (k := 11) (by omega), e (a := 106) (k := q) (by omega), e (a := 107) (k := q) (by omega), e (a := 108) (k := q) (by omega), e (a := 109) (k := q) (by omega), e (a := 110) (k := q) (by omega), e (a := 111) (k := q) (by omega), e (a := 112) (k := q) (by omega), e (a := 113) (k := q) (by omega), e (a := 114) (k := q) (by omega), e (a := 117) (k := q) (by omega), e (a := 119) (k := q) (by omega), e (a := 120) (k := q) (by omega), e (a := 1) (k := 1) (by omega)]
    exact g
  · have g := h3 q j hq hj
    unfold R_pil at g ⊢
    rw [e (a := 3 + 4 * q + 1) (k := j) (by omega), e (a := 3 + 4 * q + 2) (k := j) (by omega), e (a := 3 + 4 * q + 3) (k := j) (by omega), e (a := 115) (k := 6 * q + j) (by omega), e (a := 116) (k := 6 * q + j) (by omega), e (a := 118) (k := 6 * q + j) (by omega), e (a := 114) (k := q) (by omega)]
    exact g
  · unfold R_chain at h4 ⊢
    rw [e (a := 91) (k := 4) (by omega), e (a := 105) (k := 21) (by omega)]
    exact h4
  · have g := h5 q hq
    unfold R_ch at g ⊢
    rw [e (a := 92) (k := q) (by omega), e (a := 93) (k := q) (by omega), e (a := 94) (k := q) (by omega), e (a := 95) (k := q) (by omega), e (a := 124) (k := q) (by omega), e (a := 125) (k := q) (by omega), e (a := 126) (k := q) (by omega), e (a := 127) (k := q) (by omega)]
    exact g
  · unfold R_book at h6 ⊢
    rw [e (a := 35) (k := 2) (by omega), e (a := 105) (k := 26) (by omega)]
    exact h6
  · have g := h7 q hq
    unfold R_rep at g ⊢
    rw [e (a := 43 + q) (k := 0) (by omega), e (a := 43 + q) (k := 1) (by omega), e (a := 43 + q) (k := 2) (by omega), e (a := 43 + q) (k := 3) (by omega), e (a := 43 + q) (k := 4) (by omega), e (a := 128) (k := q) (by omega), e (a := 129) (k := q) (by omega), e (a := 130) (k := q) (by omega), e (a := 131) (k := q) (by omega), e (a := 132) (k := q) (by omega), e (a := 35) (k := 2) (by omega)]
    exact g
  · have g := h8 q hq
    unfold R_sheet at g ⊢
    rw [e (a := 97 + 2 * q) (k := 1) (by omega), e (a := 97 + 2 * q) (k := 2) (by omega), e (a := 97 + 2 * q) (k := 3) (by omega), e (a := 121) (k := q) (by omega), e (a := 122) (k := q) (by omega)]
    exact g
  · have g := h9 q j hq hj
    unfold R_cell at g ⊢
    rw [e (a := 97 + 2 * q + 1) (k := j) (by omega), e (a := 123) (k := 40 * q + j) (by omega)]
    exact g
  · rw [e (a := 0) (k := 7) (by omega), e (a := 105) (k := 1) (by omega)]
    exact h10
  · unfold R_gs at h11 ⊢
    rw [e (a := 105) (k := 32) (by omega), e (a := 105) (k := 33) (by omega), e (a := 105) (k := 34) (by omega), e (a := 105) (k := 35) (by omega), e (a := 105) (k := 36) (by omega), e (a := 105) (k := 43) (by omega), e (a := 105) (k := 48) (by omega)]
    refine ⟨h11.1, h11.2.1, h11.2.2.1, fun q hq hl => ?_⟩
    rw [e (a := 136) (k := q) (by omega)]
    exact h11.2.2.2 q hq hl
theorem rn.t {I0 I I' : Nat → Nat → Int32} (h : rn I0 I) (t : t215 I I') : rn I0 I' := ⟨t.2, (t.1 105 43 (by omega) (by omega)).trans h.2.1, fun g g1 g2 => (t.1 136 _ (by omega) (by omega)).trans (h.2.2.1 g g1 g2), fun a b a1 b1 => (t.1 138 _ (by omega) (by omega)).trans (h.2.2.2 a b a1 b1)⟩
theorem rn.up {I0 I : Nat → Nat → Int32} (h : rn I0 I) {q : Nat} (hq : 52 ≤ q ∧ q ≤ 54) (z : Int32) : rn I0 (am_up I 105 q z) := by
  refine ⟨h.1.sm (sm.rf.up (by unfold Sc; omega)), ?_, fun g g1 g2 => ?_, fun a b a1 b1 => ?_⟩
  · rw [am_upv, if_neg (by omega)]
    exact h.2.1
  · rw [am_upv, if_neg (by omega)]
    exact h.2.2.1 g g1 g2
  · rw [am_upv, if_neg (by omega)]
    exact h.2.2.2 a b a1 b1
def rg (I0 : Nat → Nat → Int32) (v : Int32) (p : Nat) : Int32 := Rw I0 (Int32.ofInt ((p / 12 : Nat) : Int)) (Int32.ofInt ((p % 12 : Nat) : Int)) v
def nxr (g : Nat → Int32) (x1 : Int32) : Int32 := if x1 = 0 then Int32.ofInt ((bpl g 143 / 12 : Nat) : Int) else if x1 = 1 then Int32.ofInt ((bpl g 143 % 12 : Nat) : Int) else bst g 143
def bi (g : Nat → Int32) (I : Nat → Nat → Int32) (p : Nat) : Prop := (p = 0 → I 105 54 = 13825) ∧ ∀ j, p = j + 1 → I 105 54 = bst g j ∧ I 105 52 = Int32.ofInt ((bpl g j / 12 : Nat) : Int) ∧ I 105 53 = Int32.ofInt ((bpl g j % 12 : Nat) : Int)
theorem w_216l {X : am_X} {d : Nat} {I0 I : Nat → Nat → Int32} {J : Nat → Nat → Int64} {Q : Option Value → am_M → Prop} {x0 x1 : Int32} (hR : rn I0 I) (h54 : I 105 54 = 13825) (hv : gR x0 1 240) (k : ∀ (r : Int32) (I' : Nat → Nat → Int32), Inv I' → r = nxr (rg I0 x0) x1 → Q (some (.int r)) (am_N I' J)) : am_wp X (d + 5) 216 46 [.ref 105, .int x0, .int x1, .int 0, am_uv, am_uv] [] (am_N I J) Q := by
  have t12 : (12 : Int32) = Int32.ofInt 12 := rfl
  refine am_down (N := 12) (P := fun a => ∀ (u4 u5 : Value) (I' : Nat → Nat → Int32), u4.category = 1 → u5.category = 1 → rn I0 I' → bi (rg I0 x0) I' (12 * a) → am_wp X (d + 5) 216 46 [.ref 105, .int x0, .int x1, .int (Int32.ofInt (a : Int)), u4, u5] [] (am_N I' J) Q) ?_ ?_ 0 (by omega) am_uv am_uv I rfl rfl hR ⟨fun _ => h54, fun j hj => absurd hj (by omega)⟩
  · intro u4 u5 I' h4 h5 hr hb
    obtain ⟨b1, b2, b3⟩ := hb.2 143 (by omega)
    refine c2_216_46 h4 h5 ⟨fun _ => ⟨fun z => k _ I' hr.1 ?_, fun z => ⟨fun y => k _ I' hr.1 ?_, fun y => k _ I' hr.1 ?_⟩⟩, fun q => absurd (by decide) q⟩
    · unfold nxr
      rw [b2, if_pos z]
    · unfold nxr
      rw [b3, if_neg z, if_pos y]
    · unfold nxr
      rw [b1, if_neg z, if_neg y]
  · intro a ha ih u4 u5 I' h4 h5 hr hb
    refine c2_216_46 h4 h5 ⟨fun q => absurd q (by rw [t12, oi_le (by omega) (by omega)]; omega), fun _ => ?_⟩
    refine am_down (N := 12) (P := fun b => ∀ (u5 : Value) (I' : Nat → Nat → Int32), u5.category = 1 → rn I0 I' → bi (rg I0 x0) I' (12 * a + b) → am_wp X (d + 5) 216 55 [.ref 105, .int x0, .int x1, .int (Int32.ofInt (a : Int)), .int (Int32.ofInt (b : Int)), u5] [] (am_N I' J) Q) ?_ ?_ 0 (by omega) u5 I' h5 hr hb
    · intro u5 I' h5 hr hb
      refine c2_216_55 (I0 := I0) h5 ⟨fun _ => ?_, fun q => absurd (by decide) q⟩
      rw [oi_succ]
      exact ih _ _ I' rfl h5 hr hb
    · intro b hb' ih' u5 I' h5 hr hb
      refine c2_216_55 (I0 := I0) h5 ⟨fun q => absurd q (by rw [t12, oi_le (by omega) (by omega)]; omega), fun _ => ⟨⟨hr, ⟨a, ha, rfl⟩, ⟨b, hb', rfl⟩, hv⟩, fun I1 h1 => ?_⟩⟩
      have eg : Rw I0 (Int32.ofInt (a : Int)) (Int32.ofInt (b : Int)) x0 = rg I0 x0 (12 * a + b) := by
        unfold rg
        rw [show (12 * a + b) / 12 = a by omega, show (12 * a + b) % 12 = b by omega]
      have r1 := hr.t h1
      rw [eg, oi_succ, h1.1 105 54 (by omega) (by omega)]
      have le := Rw_le I0 (Int32.ofInt (a : Int)) (Int32.ofInt (b : Int)) x0
      rw [eg] at le
      refine ⟨fun z => ih' _ I1 rfl r1 ⟨fun q => absurd q (by omega), fun j hj => ?_⟩, fun z => ih' _ _ rfl (((r1.up (by omega) _).up (by omega) _).up (by omega) _) ⟨fun q => absurd q (by omega), fun j hj => ?_⟩⟩
      · obtain rfl : 12 * a + b = j := by omega
        rw [h1.1 105 54 (by omega) (by omega), h1.1 105 52 (by omega) (by omega), h1.1 105 53 (by omega) (by omega)]
        generalize 12 * a + b = m at hb le z
        cases m with
        | zero =>
          rw [hb.1 rfl] at z
          exact absurd (Int32.le_trans z le) (by decide)
        | succ j =>
          obtain ⟨b1, b2, b3⟩ := hb.2 j rfl
          rw [b1] at z
          have e1 : bst (rg I0 x0) (j + 1) = bst (rg I0 x0) j := if_pos z
          have e2 : bpl (rg I0 x0) (j + 1) = bpl (rg I0 x0) j := if_pos z
          rw [e1, e2]
          exact ⟨b1, b2, b3⟩
      · obtain rfl : 12 * a + b = j := by omega
        rw [am_upv, if_neg (by omega), am_upv, if_neg (by omega), am_upv, if_pos (by omega), am_upv, if_neg (by omega), am_upv, if_pos (by omega), am_upv, if_pos (by omega)]
        have ea : a = (12 * a + b) / 12 := by omega
        have eb : b = (12 * a + b) % 12 := by omega
        have pl : bpl (rg I0 x0) (12 * a + b) = 12 * a + b ∧ rg I0 x0 (12 * a + b) = bst (rg I0 x0) (12 * a + b) := by
          generalize 12 * a + b = m at hb le z
          cases m with
          | zero => exact ⟨rfl, rfl⟩
          | succ j =>
            obtain ⟨b1, b2, b3⟩ := hb.2 j rfl
            rw [b1] at z
            exact ⟨if_neg z, (if_neg z).symm⟩
        rw [pl.1, ← pl.2, ← ea, ← eb]
        exact ⟨rfl, rfl, rfl⟩
/-! NEXT -/
theorem Co.of {I I1 : Nat → Nat → Int32} (h : Co I) (hs : Sm I I1) (e : ∀ k, 1 ≤ k → k ≤ 3 → I1 88 k = I 88 k) : Co I1 := by
  have e1 : fbit I1 = fbit I := funext hs.bit
  intro q
  rw [e 1 (by omega) (by omega)] at q
  rw [e 1 (by omega) (by omega), e 2 (by omega) (by omega), e 3 (by omega) (by omega), e1, hs.cn]
  exact h q
theorem wo8.vw {I I' : Nat → Nat → Int32} (h : wo8 I I') : vw I I' := fun a k q => h a k (by omega) (by omega)
theorem wo8.sm {I I' : Nat → Nat → Int32} (h : wo8 I I') : sm I I' := fun a k q => h a k (fun p => q (by unfold Sc; omega)) (fun p => q (by unfold Sc; omega))
theorem t61.co {I I' : Nat → Nat → Int32} {v : Int32} (h : t61 I I' v) (hI : Inv I) : Co I' := by
  have hs := h.1.vw.q hI
  have e1 : fbit I' = fbit I := funext hs.bit
  intro _
  rw [h.2.1, h.2.2.1, h.2.2.2, e1, hs.cn]
  exact ⟨rfl, rfl⟩
theorem isF_of {x : Int32} (h : ¬ v_isForce x = 0) : gR x 1 240 := by
  obtain ⟨z, rfl, z1, z2⟩ := oi_of x
  unfold v_isForce v_isWithin at h
  by_cases a : Int32.ofInt z < 1
  · rw [if_pos a] at h
    exact absurd rfl h
  · rw [if_neg a] at h
    by_cases b : 240 < Int32.ofInt z
    · rw [if_pos b] at h
      exact absurd rfl h
    · rw [show (1 : Int32) = Int32.ofInt 1 from rfl, oi_lt (by omega) (by omega)] at a
      rw [show (240 : Int32) = Int32.ofInt 240 from rfl, oi_lt (by omega) (by omega)] at b
      exact ⟨z, by omega, by omega, rfl⟩
theorem p61_of {I : Nat → Nat → Int32} (hI : Inv I) (hw : Wf I) (h84 : ∀ c, c < 576 → I 84 c = fbit I c) (h4 : I 83 4 = Int32.ofInt (fcn I 576 : Int)) (ho : Co I) {v : Int32} (hv : gR v 1 240) : p61 I v := by
  refine ⟨h84, h4, ho, ?_, fun p hp => ?_⟩
  · obtain ⟨z, z1, z2, rfl⟩ := hv
    intro q
    have := (oi_eq (b := 0) (by omega) (by omega)).mp q
    omega
  · unfold Wp
    rw [Rw_eq hI hw ⟨((p / 12 : Nat) : Int), by omega, by omega, rfl⟩ ⟨((p % 12 : Nat) : Int), by omega, by omega, rfl⟩ hv]
    exact Rw_le _ _ _ _
theorem fk.p61 {I I1 : Nat → Nat → Int32} (hI : Inv I) (hw : Wf I) (ho : Co I) (h1 : fk I I1) {v : Int32} (hv : gR v 1 240) : p61 I1 v := by
  have sq := h1.1.1.vw.q hI
  exact p61_of (hI.sm h1.1.1.sm) (h1.1.1.vw.wf hw) (fun c hc => (h1.2.1 c hc).trans (sq.bit c).symm) (h1.2.2.trans (by rw [sq.cn])) (ho.of sq (fun k _ _ => h1.1.1 88 k (by omega) (by omega) (by omega))) hv
theorem bb_cg {g g' : Nat → Int32} {N : Nat} (h : ∀ p, p < N → g' p = g p) : ∀ m, m < N → bst g' m = bst g m ∧ bpl g' m = bpl g m := by
  intro m
  induction m with
  | zero => exact fun hm => ⟨h 0 hm, rfl⟩
  | succ m ih =>
    intro hm
    obtain ⟨i1, i2⟩ := ih (by omega)
    show (if bst g' m ≤ g' (m + 1) then bst g' m else g' (m + 1)) = (if bst g m ≤ g (m + 1) then bst g m else g (m + 1)) ∧ (if bst g' m ≤ g' (m + 1) then bpl g' m else m + 1) = (if bst g m ≤ g (m + 1) then bpl g m else m + 1)
    rw [i1, i2, h _ hm]
    exact ⟨rfl, rfl⟩
theorem e_103 {X : am_X} {d : Nat} {I : Nat → Nat → Int32} {J : Nat → Nat → Int64} {Q : Option Value → am_M → Prop} {x0 : Int32} {x1 : Int32} (hI : Inv I) (hw : Wf I) (hc : Cf I) (ho : Co I) (k : ∀ (r : Int32) (I1 : Nat → Nat → Int32) (J1 : Nat → Nat → Int64), Md 216 5 [.ref 105, .int x0, .int x1, am_uv, am_uv, am_uv] (fun v => v = .int r) I1 → Q (some (.int r)) (am_N I1 J1)) : am_wp X (d + 6) 103 0 [.ref 0, .int x0, .int x1] [] (am_N I J) Q := by
  refine c_103 hI ⟨fun q => k _ _ _ (fun X d J Q k' => c2_216 ⟨fun _ => k' _ _ _ rfl hI, fun q' => absurd q q'⟩), fun q => ⟨fun z => k _ _ _ (fun X d J Q k' => c2_216 ⟨fun q' => absurd q' q, fun _ => ⟨fun _ => k' _ _ _ rfl hI, fun z' => absurd z z'⟩⟩), fun z => ⟨⟨hI, hw, hc⟩, fun I1 h1 => ?_⟩⟩⟩
  have hv := isF_of q
  have hI1 : Inv I1 := hI.sm h1.1.1.sm
  have hw1 := h1.1.1.vw.wf hw
  have sq := h1.1.1.vw.q hI
  have e43 : ∀ I2, fl I1 I2 → I2 105 43 = I1 83 4 := fun I2 h2 => many_fit hI hw h1 h2
  refine ⟨fun y => k _ _ _ (fun X d J Q k' => c2_216 ⟨fun q' => absurd q' q, fun _ => ⟨fun z' => absurd z' z, fun _ => ⟨⟨hI1, hw1⟩, fun I2 h2 => ⟨fun _ => k' _ _ _ rfl h2.1.2, fun y' => absurd (by rw [e43 I2 h2]; exact y) y'⟩⟩⟩⟩), fun y => ⟨fk.p61 hI hw ho h1 hv, fun I2 h2 => ?_⟩⟩
  have hI2 : Inv I2 := hI1.sm h2.1.sm
  have hw2 : Wf I2 := h2.1.vw.wf hw1
  have s2 := h2.1.vw.q hI1
  have eb : fbit I2 = fbit I1 := funext s2.bit
  have ec := s2.cn 576
  have eW : ∀ p, p < 144 → Wp (fbit I1) (Int32.ofInt (fcn I1 576 : Int)) x0 p = rg I2 x0 p := by
    intro p hp
    rw [← eb, ← ec]
    exact Rw_eq hI2 hw2 ⟨((p / 12 : Nat) : Int), by omega, by omega, rfl⟩ ⟨((p % 12 : Nat) : Int), by omega, by omega, rfl⟩ hv
  obtain ⟨B1, B2⟩ := bb_cg (N := 144) eW 143 (by omega)
  obtain ⟨-, -, t2, t3⟩ := h2
  rw [B2] at t2
  rw [B1] at t3
  have bl := bpl_le (rg I2 x0) 143
  have e43' : ∀ I3, fl I2 I3 → I3 105 43 = I1 83 4 := by
    intro I3 h3
    rw [h3.2.1, h1.2.2, ← sq.cn, ← ec]
    exact congrArg (fun n : Nat => Int32.ofInt (n : Int)) (cgn_fcn hI2 hw2 576 (Nat.le_refl _))
  have go : ∀ r : Int32, r = nxr (rg I2 x0) x1 → Q (some (.int r)) (am_N I2 J) := by
    intro r hr
    refine k _ _ _ (fun X d J Q k' => c2_216 ⟨fun q' => absurd q' q, fun _ => ⟨fun z' => absurd z' z, fun _ => ⟨⟨hI2, hw2⟩, fun I3 h3 => ⟨fun y' => absurd (by rw [← e43' I3 h3]; exact y') y, fun _ I4 h4 => ?_⟩⟩⟩⟩)
    have i4 : Inv I4 := h3.1.2.o138 h4.1
    have r4 : rn I2 I4 := ⟨i4, (h4.1 105 43 (by omega)).trans h3.2.1, fun g g1 g2 => (h4.1 136 _ (by omega)).trans (h3.2.2.1 g g1 g2), h4.2⟩
    refine w_216l (r4.up (by omega) _) (by rw [am_upv, if_pos (by omega)]) hv (fun r' I' hi' hr' => k' _ _ _ (congrArg Value.int ?_) hi')
    rw [hr', hr]
  refine ⟨fun a => go _ ?_, fun a => go _ ?_, fun a b => go _ ?_⟩
  · rw [t2, dv12 (by omega)]
    unfold nxr
    rw [if_pos a]
  · rw [t2, rm12 (by omega)]
    unfold nxr
    rw [if_neg (by rw [a]; decide), if_pos a]
  · rw [t3]
    unfold nxr
    rw [if_neg a, if_neg b]
