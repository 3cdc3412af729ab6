theorem c_61_22 {X : am_X} {d : Nat} {I : Nat → Nat → Int32} {J : Nat → Nat → Int64} {Q : Option Value → am_M → Prop} {x0 m : Int32} {u3 : Value} (hu3 : u3.category = 1) (k : ((144 ≤ m → Q none (am_N I J)) ∧ (¬ 144 ≤ m → (p62 I ∧ ∀ (I3203 : Nat → Nat → Int32), wd I I3203 → (((I3203 88 3) ≤ (Wst (I 84) (I 83 4) (m / 12) (am_rem m 12) x0) → am_wp X (d + 3) 61 22 [.ref 88, .int x0, .int (m + 1), .int (Wst (I 84) (I 83 4) (m / 12) (am_rem m 12) x0)] [] (am_N I3203 J) Q) ∧ (¬ (I3203 88 3) ≤ (Wst (I 84) (I 83 4) (m / 12) (am_rem m 12) x0) → am_wp X (d + 3) 61 22 [.ref 88, .int x0, .int (m + 1), .int (Wst (I 84) (I 83 4) (m / 12) (am_rem m 12) x0)] [] (am_N (am_up (am_up I3203 88 3 (Wst (I 84) (I 83 4) (m / 12) (am_rem m 12) x0)) 88 2 m) J) Q)))))) : am_wp X (d + 3) 61 22 [.ref 88, .int x0, .int m, u3] [] (am_N I J) Q := s61_22 (s61_23 (s61_26 (fun h3202 => have k := k.1 h3202; s61_67 (k)) (fun h3202 => have k := k.2 h3202; s61_29 (s61_30 (s61_31 (s61_33 (by decide) (s61_34 (s61_35 (s61_37 (by decide) (s61_38 (s61_39 k0_88 (Nat.le_of_ble_eq_true rfl) (w_62 k.1 (fun I3203 h1 => have k := k.2 I3203 h1; am_aft (s61_42 rfl (s61_43 (s61_44 (s61_45 k0_88 (s61_48 (fun h3204 => have k := k.1 h3204; s61_61 rfl (s61_64 (k))) (fun h3204 => have k := k.2 h3204; s61_51 (s61_52 (s61_53 k0_88 (s61_56 (s61_57 (s61_58 k0_88 (s61_61 rfl (s61_64 (k)))))))))))))))))))))))))))
/-! the best place -/
def bst (g : Nat → Int32) : Nat → Int32
  | 0 => g 0
  | m + 1 => if bst g m ≤ g (m + 1) then bst g m else g (m + 1)
def bpl (g : Nat → Int32) : Nat → Nat
  | 0 => 0
  | m + 1 => if bst g m ≤ g (m + 1) then bpl g m else m + 1
def Wp (f : Nat → Int32) (n v : Int32) (p : Nat) : Int32 := Wst f n (Int32.ofInt ((p / 12 : Nat) : Int)) (Int32.ofInt ((p % 12 : Nat) : Int)) v
theorem Wst_cg {f f' : Nat → Int32} {n x y v : Int32} (h : ∀ q, q < 576 → f' q = f q) : Wst f' n x y v = Wst f n x y v := by
  have e : (fun w => Kw f' x y v w 576) = fun w => Kw f x y v w 576 := funext fun w => Kw_cg x y v w 576 h
  unfold Wst
  rw [e]
theorem bst_cg {g g' : Nat → Int32} (h : ∀ p, g' p = g p) : ∀ m, bst g' m = bst g m ∧ bpl g' m = bpl g m := by
  intro m
  induction m with
  | zero => exact ⟨h 0, rfl⟩
  | succ m ih =>
    show (if bst g' m ≤ g' (m + 1) then bst g' m else g' (m + 1)) = (if bst g m ≤ g (m + 1) then bst g m else g (m + 1)) ∧ (if bst g' m ≤ g' (m + 1) then bpl g' m else m + 1) = (if bst g m ≤ g (m + 1) then bpl g m else m + 1)
    rw [ih.1, ih.2, h]
    exact ⟨rfl, rfl⟩
theorem bpl_le (g : Nat → Int32) : ∀ m, bpl g m ≤ m := by
  intro m
  induction m with
  | zero => exact Nat.le_refl 0
  | succ m ih =>
    show (if bst g m ≤ g (m + 1) then bpl g m else m + 1) ≤ m + 1
    split <;> omega
def wo8 (I I' : Nat → Nat → Int32) : Prop := ∀ a k, ¬ a = 89 → ¬ (a = 88 ∧ 1 ≤ k ∧ k ≤ 3) → I' a k = I a k
/-- what the class holds for known of a place -/
def Co (I : Nat → Nat → Int32) : Prop := ¬ I 88 1 = 0 → I 88 2 = Int32.ofInt (bpl (Wp (fbit I) (Int32.ofInt (fcn I 576 : Int)) (I 88 1)) 143 : Int) ∧ I 88 3 = bst (Wp (fbit I) (Int32.ofInt (fcn I 576 : Int)) (I 88 1)) 143
def p61 (I : Nat → Nat → Int32) (v : Int32) : Prop := (∀ c, c < 576 → I 84 c = fbit I c) ∧ I 83 4 = Int32.ofInt (fcn I 576 : Int) ∧ Co I ∧ ¬ v = 0 ∧ ∀ p, p < 144 → Wp (fbit I) (Int32.ofInt (fcn I 576 : Int)) v p ≤ 13824
def t61 (I I' : Nat → Nat → Int32) (v : Int32) : Prop := wo8 I I' ∧ I' 88 1 = v ∧ I' 88 2 = Int32.ofInt (bpl (Wp (fbit I) (Int32.ofInt (fcn I 576 : Int)) v) 143 : Int) ∧ I' 88 3 = bst (Wp (fbit I) (Int32.ofInt (fcn I 576 : Int)) v) 143
theorem w_61 {X : am_X} {d : Nat} {I : Nat → Nat → Int32} {J : Nat → Nat → Int64} {Q : Option Value → am_M → Prop} {x0 : Int32} (h : p61 I x0) (k : ∀ I' : Nat → Nat → Int32, t61 I I' x0 → Q none (am_N I' J)) : am_wp X (d + 3) 61 0 [.ref 88, .int x0, am_uv, am_uv] [] (am_N I J) Q := by
  obtain ⟨h84, h4, hc, hv, hb⟩ := h
  refine c_61 ⟨fun q => ?_, fun q => ?_⟩
  · obtain ⟨c2, c3⟩ := hc (by rw [q]; exact hv)
    rw [q] at c2 c3
    exact k I ⟨fun _ _ _ _ => rfl, q, c2, c3⟩
  · generalize hg : Wp (fbit I) (Int32.ofInt (fcn I 576 : Int)) x0 = g at hb
    unfold t61 at k
    rw [hg] at k
    have val : ∀ I' : Nat → Nat → Int32, wo8 I I' → ∀ m, m < 144 → Wst (I' 84) (I' 83 4) (Int32.ofInt ((m / 12 : Nat) : Int)) (Int32.ofInt ((m % 12 : Nat) : Int)) x0 = g m := by
      intro I' hs m hm
      rw [← hg, hs 83 4 (by omega) (by omega), h4]
      exact Wst_cg (fun q hq => (hs 84 q (by omega) (by omega)).trans (h84 q hq))
    refine am_down (N := 144) (P := fun m => ∀ (u3 : Value) (I' : Nat → Nat → Int32), u3.category = 1 → wo8 I I' → I' 88 1 = x0 → (m = 0 → I' 88 3 = 2147483647) → (∀ j, m = j + 1 → I' 88 3 = bst g j ∧ I' 88 2 = Int32.ofInt (bpl g j : Int)) → am_wp X (d + 3) 61 22 [.ref 88, .int x0, .int (Int32.ofInt (m : Int)), u3] [] (am_N I' J) Q) ?_ ?_ 0 (by omega) am_uv _ rfl (fun a j p r => ?_) ?_ (fun _ => ?_) (fun j hj => absurd hj (by omega))
    · intro u3 I' h3 hs h1 _ hj
      refine c_61_22 h3 ⟨fun _ => k I' ⟨hs, h1, (hj 143 rfl).2, (hj 143 rfl).1⟩, fun q => absurd (by decide) q⟩
    · intro m hm ih u3 I' h3 hs h1 h0 hj
      refine c_61_22 h3 ⟨fun q => absurd q (by rw [show (144 : Int32) = Int32.ofInt 144 from rfl, oi_le (by omega) (by omega)]; omega), fun _ => ⟨fun c hc => by rw [hs 84 c (by omega) (by omega), h84 c hc]; exact M24.ft, fun I1 hd => ?_⟩⟩
      rw [dv12 hm, rm12 hm, val I' hs m hm, oi_succ, hd 88 3 (by omega)]
      have s1 : wo8 I I1 := fun a j p r => (hd a j p).trans (hs a j p r)
      have e1 : I1 88 1 = x0 := (hd 88 1 (by omega)).trans h1
      refine ⟨fun z => ?_, fun z => ?_⟩
      · refine ih _ I1 rfl s1 e1 (fun q => absurd q (by omega)) (fun j hj' => ?_)
        obtain rfl : m = j := by omega
        cases m with
        | zero =>
          rw [h0 rfl] at z
          have := Int32.le_trans z (hb 0 hm)
          exact absurd this (by decide)
        | succ j =>
          obtain ⟨c3, c2⟩ := hj j rfl
          rw [c3] at z
          rw [hd 88 3 (by omega), hd 88 2 (by omega), c3, c2]
          exact ⟨(if_pos z).symm, congrArg (fun n : Nat => Int32.ofInt (n : Int)) (show bpl g j = if bst g j ≤ g (j + 1) then bpl g j else j + 1 from (if_pos z).symm)⟩
      · refine ih _ _ rfl (fun a j p r => ?_) ?_ (fun q => absurd q (by omega)) (fun j hj' => ?_)
        · rw [am_upv, if_neg (by omega), am_upv, if_neg (by omega)]
          exact s1 a j p r
        · rw [am_upv, if_neg (by omega), am_upv, if_neg (by omega)]
          exact e1
        · obtain rfl : m = j := by omega
          rw [am_upv, if_neg (by omega), am_upv, if_pos (by omega), am_upv, if_pos (by omega)]
          cases m with
          | zero => exact ⟨rfl, rfl⟩
          | succ j =>
            obtain ⟨c3, c2⟩ := hj j rfl
            rw [c3] at z
            exact ⟨(if_neg z).symm, congrArg (fun n : Nat => Int32.ofInt (n : Int)) (show j + 1 = if bst g j ≤ g (j + 1) then bpl g j else j + 1 from (if_neg z).symm)⟩
    · rw [am_upv, if_neg (by omega), am_upv, if_neg (by omega)]
    · rw [am_upv, if_neg (by omega), am_upv, if_pos (by omega)]
    · rw [am_upv, if_pos (by omega)]
theorem c_103 {X : am_X} {d : Nat} {I : Nat → Nat → Int32} {J : Nat → Nat → Int64} {Q : Option Value → am_M → Prop} {x0 : Int32} {x1 : Int32} (hI : Inv I) (k : (((v_isForce x0) = 0 → Q (some (.int (-2))) (am_N I J)) ∧ (¬ (v_isForce x0) = 0 → (((v_isWithin x1 0 2) = 0 → Q (some (.int (-2))) (am_N I J)) ∧ (¬ (v_isWithin x1 0 2) = 0 → ((Inv I ∧ Wf I ∧ Cf I) ∧ ∀ (I3207 : Nat → Nat → Int32), fk I I3207 → (((I3207 83 4) = 0 → Q (some (.int (-3))) (am_N I3207 J)) ∧ (¬ (I3207 83 4) = 0 → (p61 I3207 x0 ∧ ∀ (I3209 : Nat → Nat → Int32), t61 I3207 I3209 x0 → ((x1 = 0 → Q (some (.int ((I3209 88 2) / 12))) (am_N I3209 J)) ∧ (x1 = 1 → Q (some (.int (am_rem (I3209 88 2) 12))) (am_N I3209 J)) ∧ (¬ x1 = 0 → ¬ x1 = 1 → Q (some (.int (I3209 88 3))) (am_N I3209 J)))))))))))) : am_wp X (d + 6) 103 0 [.ref 0, .int x0, .int x1] [] (am_N I J) Q := s103_0 (s103_1 (Nat.le_of_ble_eq_true rfl) (w_isForce (am_aft (s103_4 (fun h3205 => have k := k.1 h3205; s103_16 (s103_18 (k))) (fun h3205 => have k := k.2 h3205; s103_7 (s103_8 (s103_9 (s103_10 (Nat.le_of_ble_eq_true rfl) (w_isWithin (am_aft (s103_13 (fun h3206 => have k := k.1 h3206; s103_16 (s103_18 (k))) (fun h3206 => have k := k.2 h3206; s103_19 (s103_20 k0_0 p0_0_2 (s103_23 k0_83 (Nat.le_of_ble_eq_true rfl) (w_36f k.1.1 k.1.2.1 k.1.2.2 (fun I3207 h1 => have k := k.2 I3207 h1; am_aft0 (s103_26 (s103_27 k0_0 p0_0_2 (s103_30 k0_83 (s103_33 (fun h3208 => have k := k.1 h3208; s103_36 (s103_38 (k))) (fun h3208 => have k := k.2 h3208; s103_39 (s103_40 k0_0 p0_0_4 (s103_43 (s103_44 k0_88 (Nat.le_of_ble_eq_true rfl) (w_61 k.1 (fun I3209 h1 => have k := k.2 I3209 h1; am_aft0 (s103_47 (s103_48 (fun h3210 => have k := k.1 h3210; s103_76 (s103_77 k0_0 p0_0_4 (s103_80 k0_88 (s103_83 (s103_85 (by decide) (s103_86 (k))))))) (fun h3211 => have k := k.2.1 h3211; s103_87 (s103_88 k0_0 p0_0_4 (s103_91 k0_88 (s103_94 (s103_96 (by decide) (s103_97 (k))))))) (fun h3212 h3213 => have k := k.2.2 h3212 h3213; s103_98 (s103_99 k0_0 p0_0_4 (s103_102 k0_88 (s103_105 (k)))))))))))))))))))))))))))))))))
