theorem c_94 {X : am_X} {d : Nat} {I : Nat → Nat → Int32} {J : Nat → Nat → Int64} {Q : Option Value → am_M → Prop} (hI : Inv I) (k : ((Inv I ∧ Wf I ∧ Cf I) ∧ ∀ (I3189 : Nat → Nat → Int32), fk I I3189 → Q (some (.int (I3189 83 4))) (am_N I3189 J))) : am_wp X (d + 6) 94 0 [.ref 0] [] (am_N I J) Q := s94_0 (s94_1 k0_0 p0_0_2 (s94_4 k0_83 (Nat.le_of_ble_eq_true rfl) (w_36f k.1.1 k.1.2.1 k.1.2.2 (fun I3189 h1 => have k := k.2 I3189 h1; am_aft0 (s94_7 (s94_8 k0_0 p0_0_2 (s94_11 k0_83 (s94_14 (k)))))))))
theorem c2_196 {X : am_X} {d : Nat} {I : Nat → Nat → Int32} {J : Nat → Nat → Int64} {Q : Option Value → am_M → Prop} (k : ((Inv I ∧ Wf I) ∧ ∀ (I3190 : Nat → Nat → Int32), fl I I3190 → Q (some (.int (I3190 105 43))) (am_N I3190 J))) : am_wp X (d + 5) 196 0 [.ref 105] [] (am_N I J) Q := s196_0 (s196_1 k0_105 (Nat.le_of_ble_eq_true rfl) (w_195 k.1.1 k.1.2 (fun I3190 h1 => have k := k.2 I3190 h1; am_aft0 (s196_4 (s196_5 k0_105 (s196_8 (k)))))))
/-! FITS, FIT -/
theorem fk.v {I I' : Nat → Nat → Int32} (h : fk I I') : vw I I' := h.1.1.vw
theorem fk.ag {I I' : Nat → Nat → Int32} (h : fk I I') : am_ag I I' := fun a ha => funext fun j => h.1.1 a j (by omega) (by omega) (by omega)
/-- how many fit, on both sides -/
theorem many_fit {I I1 I2 : Nat → Nat → Int32} (hI : Inv I) (hw : Wf I) (h1 : fk I I1) (h2 : fl I1 I2) : I2 105 43 = I1 83 4 := by
  have hI1 : Inv I1 := hI.sm h1.1.1.sm
  have e := cgn_fcn hI1 (h1.v.wf hw) 576 (Nat.le_refl _)
  rw [h2.2.1, h1.2.2, ← (h1.v.q hI).cn 576]
  exact congrArg (fun n : Nat => Int32.ofInt (n : Int)) e
theorem e_94 {X : am_X} {d : Nat} {I : Nat → Nat → Int32} {J : Nat → Nat → Int64} {Q : Option Value → am_M → Prop} (hI : Inv I) (hw : Wf I) (hc : Cf I) (k : ∀ (r : Int32) (I1 : Nat → Nat → Int32) (J1 : Nat → Nat → Int64), Md 196 5 [.ref 105] (fun v => v = .int r) I1 → Q (some (.int r)) (am_N I1 J1)) : am_wp X (d + 6) 94 0 [.ref 0] [] (am_N I J) Q := by
  refine c_94 hI ⟨⟨hI, hw, hc⟩, fun I1 h1 => k _ _ _ (fun X d J Q k' => c2_196 ⟨⟨hI.sm h1.1.1.sm, h1.v.wf hw⟩, fun I2 h2 => k' _ _ _ (congrArg Value.int (many_fit hI hw h1 h2)) h2.1.2⟩)⟩
