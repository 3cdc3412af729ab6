theorem f_110 {X : am_X} {d : Nat} {I : Nat → Nat → Int32} {J : Nat → Nat → Int64} {Q : Option Value → am_M → Prop} {x0 : Int32} {x1 : Int32} {x2 : Int32} (hI : Inv I) (hw : Wf I) (hb0 : Bl I) (k : ∀ (v : Option Value) (I1 : Nat → Nat → Int32) (J1 : Nat → Nat → Int64), Fj I I1 → Q v (am_N I1 J1)) : am_wp X (d + 1) 110 0 [.ref 0, .int x0, .int x1, .int x2, am_uv, am_uv] [] (am_N I J) Q := by
  have fin : ∀ (v : Option Value) (I' : Nat → Nat → Int32), (∀ a k, ¬ a = 0 → ¬ (97 ≤ a ∧ a ≤ 104) → I' a k = I a k) → Q v (am_N I' J) := fun v I' h => k v _ _ (Fj.fr hI hw (fun a j q => h a j (fun p => q (by unfold Ns; omega)) (fun p => q (by unfold Ns; omega))) (hb0.fr (fun q hq => h _ _ (by omega) (by omega))))
  have u0 : ∀ a j, ¬ a = 0 → ¬ (97 ≤ a ∧ a ≤ 104) → am_up I 0 8 0 a j = I a j := fun a j p q => by rw [am_upv, if_neg (by omega)]
  have u1 : ∀ w a j, ¬ a = 0 → ¬ (97 ≤ a ∧ a ≤ 104) → am_up (am_up I 0 8 0) 0 8 w a j = I a j := fun w a j p q => by rw [am_upv, if_neg (by omega), am_upv, if_neg (by omega)]
  refine c_110 hI ⟨fun h => fin _ _ u0, fun hh => ⟨fun _ => fin _ _ (u1 _), fun _ => ⟨fun _ => fin _ _ (u1 _), fun i0 => ⟨fun _ => fin _ _ (u1 _), fun _ => ⟨fun _ => fin _ _ u0, fun _ => ⟨fun i40 => ?_, fun _ => fin _ _ u0⟩⟩⟩⟩⟩⟩
  have hl := am_ix_lt (ixSh hh)
  have ix : am_ix x1 40 := am_ix_of (N := 40) rfl (by decide) i0 (Int32.not_le.mpr i40)
  have u2 : ∀ w a j, ¬ a = 0 → ¬ (97 ≤ a ∧ a ≤ 104) → am_up (am_up I 0 8 0) ((97 + 2 * Int32.toNatClampNeg x0) + 1) (Int32.toNatClampNeg x1) w a j = I a j := fun w a j p q => by rw [am_upv, if_neg (by omega), am_upv, if_neg (by omega)]
  exact ⟨fun _ => ⟨ix, fin _ _ (u2 _)⟩, fun _ => ⟨ix, fin _ _ (u2 _)⟩, fun _ _ => ⟨ix, fin _ _ (u2 _)⟩⟩
