/-! THE START, what is known there -/
def Kst (I : Nat → Nat → Int32) : Prop := I 35 2 = 0 ∧ (∀ q, q < 8 → I (3 + 4 * q) 8 = -9) ∧ clr I
theorem Kst.of_iv {I : Nat → Nat → Int32} (h : ∀ a q, a < 133 → q < nn a → I a q = iv a q) : Kst I := by
  have nb : ∀ {a k : Nat}, a < 98 → k < 12 → k < nn a := by
    intro a k q r
    unfold nn
    rw [if_neg (by omega), if_neg (by omega), if_pos (by omega)]
    exact r
  refine ⟨?_, fun q hq => ?_, ?_, ?_, ?_⟩
  · rw [h _ _ (by omega) (nb (by omega) (by omega))]
    decide
  · rw [h _ _ (by omega) (nb (by omega) (by omega))]
    unfold iv
    rw [if_neg (by omega), if_neg (by omega), if_neg (by omega), if_pos (by omega)]
  · rw [h _ _ (by omega) (nb (by omega) (by omega))]
    decide
  · rw [h _ _ (by omega) (nb (by omega) (by omega))]
    decide
  · rw [h _ _ (by omega) (nb (by omega) (by omega))]
    decide
theorem am_first2 {X : am_X} {Q : Option Value → am_M → Prop} (k : ∀ I J, Inv I → Kst I → am_wp X 10 231 18 [.ref am_scr, .ref 0, .ref 105, .int 0] [] (am_N I J) Q) : am_wp X 10 231 0 [.ref am_scr, am_uv, am_uv, am_uv] [] am_00 Q := by
  obtain ⟨σ1, I, J, h1, h2, h3, h4, h5⟩ := am_made
  refine Eq.mpr (am_wp_al (i := .new 7) (len := 3) (st' := [.ref 0]) (σ' := am_mk am_00 9 9) (by decide +kernel) rfl rfl rfl rfl rfl (by rfl)) ?_
  refine Eq.mpr (r_dup (pc := 3) (by decide +kernel) rfl) ?_
  obtain ⟨pp, hc⟩ := am_tce (o := T_own 231) (k := 9) (kd := 4) (m := 76) (n := 0) (by decide +kernel)
  refine Eq.mpr (r_ci (d := 9) (pc := 4) (k := 9) (kd := 4) (m := 76) (n := 0) (a := 0) (as := []) (r := [.ref 0]) (by decide +kernel) hc (Or.inl rfl) rfl rfl (Nat.zero_le _) (by decide) (by decide) (by decide +kernel)) ?_
  refine ⟨4000, none, σ1, ?_, ?_⟩
  · exact am_evX X 4000 9 76 0 _ _ _ _ h1
  refine am_aft0 ?_
  refine g_asn (i := 1) (pc := 7) (by decide +kernel) (by decide) (Or.inr rfl) rfl ?_
  refine Eq.mpr (am_wp_al (i := .new 10) (pc := 8) (len := 3) (st' := [.ref 105]) (σ' := am_mk σ1 10 58) (by decide +kernel) rfl rfl rfl rfl rfl ?_) ?_
  · have hn : T_new (T_own 231) 10 = some (10, (T_new (T_own 231) 10).get (by decide +kernel) |>.2) := by decide +kernel
    unfold am_al
    dsimp only
    rw [hn]
    show (if σ1.1.length < am_scr ∧ σ1.2.2.2.1.length = σ1.1.length then some (3, Value.ref σ1.1.length :: [], am_mk σ1 10 (am_nf 10)) else none) = _
    rw [h2, h3, if_pos (by decide)]
    rfl
  refine Eq.mpr (r_dup (pc := 11) (by decide +kernel) rfl) ?_
  obtain ⟨pp2, hc2⟩ := am_tce (o := T_own 231) (k := 12) (kd := 4) (m := 140) (n := 0) (by decide +kernel)
  refine Eq.mpr (r_ci (d := 9) (pc := 12) (k := 12) (kd := 4) (m := 140) (n := 0) (a := 105) (as := []) (r := [.ref 105]) (by decide +kernel) hc2 (Or.inl rfl) rfl rfl (Nat.zero_le _) (by decide) (by decide) (by decide +kernel)) ?_
  refine ⟨4000, none, am_N I J, ?_, ?_⟩
  · exact am_evX X 4000 9 140 0 _ _ _ _ h4
  refine am_aft0 ?_
  refine g_asn (i := 2) (pc := 15) (by decide +kernel) (by decide) (Or.inr rfl) rfl ?_
  refine Eq.mpr (r_ic (z := 0) (v := 0) (pc := 16) (by decide +kernel) (by decide +kernel)) ?_
  refine g_isn (i := 3) (pc := 17) (by decide +kernel) (by decide) (Or.inr rfl) rfl ?_
  exact k I J (Inv.of_iv h5) (Kst.of_iv h5)
/-! TWO RELATIONS AT ONCE -/
abbrev Md2 (K : (Nat → Nat → Int32) → Prop) (j dB : Nat) (en : List Value) (A : Value → Prop) (I1 : Nat → Nat → Int32) : Prop := ∀ (X : am_X) (d : Nat) (J : Nat → Nat → Int64) (Q : Option Value → am_M → Prop), (∀ (v : Value) (I2 : Nat → Nat → Int32) (J2 : Nat → Nat → Int64), A v → Inv I2 → K I2 → Q (some v) (am_N I2 J2)) → am_wp X (d + dB) j 0 en [] (am_N I1 J) Q
def KL (K : (Nat → Nat → Int32) → Prop) : Prop := ∀ I I', Inv I' → (∀ a, a < 105 → I' a = I a) → K I → K I'
theorem aS.nl {S : Nat → Prop} : aS S [] := fun _ q => by cases q
theorem aS.ci {S : Nat → Prop} {l : List Value} {x : Int32} (h : aS S l) : aS S (.int x :: l) := fun b q => by
  rcases List.mem_cons.mp q with q | q
  · cases q
  · exact h b q
theorem aS.cu {S : Nat → Prop} {l : List Value} (h : aS S l) : aS S (am_uv :: l) := fun b q => by
  rcases List.mem_cons.mp q with q | q
  · cases q
  · exact h b q
theorem rf_105 : Rf 105 := Nat.le_refl _
theorem Md.k2 {K : (Nat → Nat → Int32) → Prop} (hK : KL K) {j dB : Nat} {en : List Value} {A : Value → Prop} {I1 : Nat → Nat → Int32} (h : Md j dB en A I1) (he : aS Rf en) (hk : K I1) : Md2 K j dB en A I1 := by
  intro X d J Q k
  refine am_wp_to (am_wp_rf (h X d J (fun v s => ∃ (w : Value) (I2 : Nat → Nat → Int32) (J2 : Nat → Nat → Int64), v = some w ∧ s = am_N I2 J2 ∧ A w ∧ Inv I2) (fun v I2 J2 a i => ⟨v, I2, J2, rfl, rfl, a, i⟩)) he aS.nl) ?_
  rintro v s ⟨⟨w, I2, J2, rfl, rfl, a, i⟩, hs⟩
  exact k w I2 J2 a i (hK I1 I2 i hs hk)
theorem two_of {K : (Nat → Nat → Int32) → Prop} {X : am_X} {d j jB dB : Nat} {en enB : List Value} {τ : Type} {c : τ → Value} {A : τ → Value → Prop} {I : Nat → Nat → Int32} {J : Nat → Nat → Int64} {Q : Option Value → am_M → Prop} (hK : KL K) (he : aS Rf enB) (h1 : am_wp X d j 0 en [] (am_N I J) (fun v s => ∃ (r : τ) (I1 : Nat → Nat → Int32) (J1 : Nat → Nat → Int64), v = some (c r) ∧ s = am_N I1 J1 ∧ Md jB dB enB (A r) I1)) (h2 : am_wp X d j 0 en [] (am_N I J) (fun _ s => ∃ (I1 : Nat → Nat → Int32) (J1 : Nat → Nat → Int64), s = am_N I1 J1 ∧ K I1)) (k : ∀ (r : τ) (I1 : Nat → Nat → Int32) (J1 : Nat → Nat → Int64), Md2 K jB dB enB (A r) I1 → Q (some (c r)) (am_N I1 J1)) : am_wp X d j 0 en [] (am_N I J) Q := by
  refine am_wp_to (am_wp_and h1 h2) ?_
  rintro v s ⟨⟨r, I1, J1, rfl, rfl, hm⟩, ⟨I1', J1', e, hk⟩⟩
  have e1 : I1 = I1' := congrArg (fun m : am_M => m.2.1) e
  subst e1
  exact k r I1 J1 (hm.k2 hK he hk)
theorem Md2.eq {K : (Nat → Nat → Int32) → Prop} {X : am_X} {d j dB : Nat} {en : List Value} {w : Value} {I1 : Nat → Nat → Int32} {J : Nat → Nat → Int64} {Q : Option Value → am_M → Prop} (h : Md2 K j dB en (fun v => v = w) I1) (k : ∀ (I2 : Nat → Nat → Int32) (J2 : Nat → Nat → Int64), Inv I2 → K I2 → Q (some w) (am_N I2 J2)) : am_wp X (d + dB) j 0 en [] (am_N I1 J) Q := h X d J Q (fun v I2 J2 e hI hk => by subst e; exact k I2 J2 hI hk)
theorem Md2.any {K : (Nat → Nat → Int32) → Prop} {X : am_X} {d j dB : Nat} {en : List Value} {I1 : Nat → Nat → Int32} {J : Nat → Nat → Int64} {Q : Option Value → am_M → Prop} (h : Md2 K j dB en (fun v => ∃ z : Int32, v = .int z) I1) (k : ∀ (z : Int32) (I2 : Nat → Nat → Int32) (J2 : Nat → Nat → Int64), Inv I2 → K I2 → Q (some (.int z)) (am_N I2 J2)) : am_wp X (d + dB) j 0 en [] (am_N I1 J) Q := h X d J Q (fun v I2 J2 e hI hk => by obtain ⟨z, e⟩ := e; subst e; exact k z I2 J2 hI hk)
theorem Md2.anyL {K : (Nat → Nat → Int32) → Prop} {X : am_X} {d j dB : Nat} {en : List Value} {I1 : Nat → Nat → Int32} {J : Nat → Nat → Int64} {Q : Option Value → am_M → Prop} (h : Md2 K j dB en (fun v => ∃ z : Int64, v = .long z) I1) (k : ∀ (z : Int64) (I2 : Nat → Nat → Int32) (J2 : Nat → Nat → Int64), Inv I2 → K I2 → Q (some (.long z)) (am_N I2 J2)) : am_wp X (d + dB) j 0 en [] (am_N I1 J) Q := h X d J Q (fun v I2 J2 e hI hk => by obtain ⟨z, e⟩ := e; subst e; exact k z I2 J2 hI hk)
theorem Wf.lo {I I' : Nat → Nat → Int32} (h : ∀ a, a < 105 → I' a = I a) (hw : Wf I) : Wf I' := by
  intro r hr hl
  rw [h 35 (by omega)] at hl
  exact (hw r hr hl).mono (fun k hk => by rw [h _ (by omega)]) (by rw [h 1 (by omega)]; exact Int32.le_refl _) (fun q hq _ => by rw [h (3 + 4 * q) (by omega)]; exact Int32.le_refl _)
theorem Bl.lo {I I' : Nat → Nat → Int32} (h : ∀ a, a < 105 → I' a = I a) (hb : Bl I) : Bl I' := hb.fr (fun q hq => by rw [h _ (by omega)])
