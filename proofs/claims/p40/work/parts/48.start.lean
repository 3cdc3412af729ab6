/-! THE START: what the makers lay keeps Inv -/
def iv (a k : Nat) : Int32 := if a = 121 ∧ k < 4 then -9 else if a = 35 ∧ k = 10 then 1000000 else if 3 ≤ a ∧ a ≤ 31 ∧ a % 4 = 3 ∧ k = 7 then 1 else if 3 ≤ a ∧ a ≤ 31 ∧ a % 4 = 3 ∧ k = 8 then -9 else 0
def nn (a : Nat) : Nat := if a = 105 then 50 else if a = 123 then 160 else if a < 98 then 12 else 48
def am_chk3 (r : Option (Option Value × am_M)) (k n : Nat) : Bool := match r with
  | some (none, σ) => decide (σ.1 = am_K0.take k) && (decide (σ.2.2.2.1 = am_P0.take k) && (decide (σ.2.2.2.2 = n) && (List.range 133).all (fun a => (List.range (nn a)).all (fun q => decide (σ.2.1 a q = iv a q)))))
  | _ => false
theorem am_chk3_of {r : Option (Option Value × am_M)} {k n : Nat} (h : am_chk3 r k n = true) : ∃ σ, r = some (none, σ) ∧ σ.1 = am_K0.take k ∧ σ.2.2.2.1 = am_P0.take k ∧ σ.2.2.2.2 = n ∧ ∀ a q, a < 133 → q < nn a → σ.2.1 a q = iv a q := by
  unfold am_chk3 at h
  split at h
  · rename_i σ
    rw [Bool.and_eq_true, Bool.and_eq_true, Bool.and_eq_true] at h
    exact ⟨σ, rfl, of_decide_eq_true h.1, of_decide_eq_true h.2.1, of_decide_eq_true h.2.2.1, fun a q ha hq => of_decide_eq_true (List.all_eq_true.mp (List.all_eq_true.mp h.2.2.2 a (List.mem_range.mpr ha)) q (List.mem_range.mpr hq))⟩
  · cases h
theorem am_try3 : am_chk3 am_run2 141 16887 = true := by decide +kernel
theorem am_made : ∃ (σ1 : am_M) (I : Nat → Nat → Int32) (J : Nat → Nat → Int64), am_ev none 4000 9 76 0 [.ref 0, am_uv] [] (am_mk am_00 9 9) = some (none, σ1) ∧ σ1.1.length = 105 ∧ σ1.2.2.2.1.length = 105 ∧ am_ev none 4000 9 140 0 [.ref 105] [] (am_mk σ1 10 58) = some (none, am_N I J) ∧ ∀ a q, a < 133 → q < nn a → I a q = iv a q := by
  obtain ⟨σ1, h1, h2, h3, -, -⟩ := am_chk_of am_try1
  obtain ⟨⟨K, I, J, P, sl⟩, g1, g2, g3, g4, g5⟩ := am_chk3_of am_try3
  have e1 : am_ev none 4000 9 76 0 [.ref 0, am_uv] [] (am_mk am_00 9 9) = some (none, σ1) := h1
  have e2 : am_ev none 4000 9 140 0 [.ref 105] [] (am_mk σ1 10 58) = some (none, (K, I, J, P, sl)) := by
    unfold am_run2 at g1
    rw [h1] at g1
    exact g1
  have hK : K = am_K0 := g2
  have hP : P = am_P0 := g3
  have hs : sl = 16887 := g4
  subst hK
  subst hP
  subst hs
  exact ⟨σ1, I, J, e1, by rw [h2]; decide +kernel, by rw [h3]; decide +kernel, e2, g5⟩
theorem Inv.of_iv {I : Nat → Nat → Int32} (h : ∀ a q, a < 133 → q < nn a → I a q = iv a q) : Inv I := by
  have nb : ∀ {a k : Nat}, ((a < 98 ∧ k < 12) ∨ (98 ≤ a ∧ k < 48) ∨ (a = 105 ∧ k < 50) ∨ (a = 123 ∧ k < 160)) → k < nn a := by
    intro a k q
    unfold nn
    by_cases c1 : a = 105
    · rw [if_pos c1]; omega
    rw [if_neg c1]
    by_cases c2 : a = 123
    · rw [if_pos c2]; omega
    rw [if_neg c2]
    by_cases c3 : a < 98
    · rw [if_pos c3]; omega
    rw [if_neg c3]; omega
  have z : ∀ {a k : Nat}, (a < 133 ∧ ((a < 98 ∧ k < 12) ∨ (98 ≤ a ∧ k < 48) ∨ (a = 105 ∧ k < 50) ∨ (a = 123 ∧ k < 160)) ∧ a ≠ 121 ∧ ¬ (a = 35 ∧ k = 10) ∧ ¬ (3 ≤ a ∧ a ≤ 31 ∧ a % 4 = 3 ∧ (k = 7 ∨ k = 8))) → I a k = 0 := by
    intro a k q
    rw [h a k q.1 (nb q.2.1)]
    unfold iv
    rw [if_neg (by omega), if_neg (by omega), if_neg (by omega), if_neg (by omega)]
  have z7 : ∀ q : Nat, q < 8 → I (3 + 4 * q) 7 = 1 := by
    intro q hq
    rw [h _ _ (by omega) (nb (by omega))]
    unfold iv
    rw [if_neg (by omega), if_neg (by omega), if_pos (by omega)]
  have z8 : ∀ q : Nat, q < 8 → I (3 + 4 * q) 8 = -9 := by
    intro q hq
    rw [h _ _ (by omega) (nb (by omega))]
    unfold iv
    rw [if_neg (by omega), if_neg (by omega), if_neg (by omega), if_pos (by omega)]
  have z121 : ∀ q : Nat, q < 4 → I 121 q = -9 := by
    intro q hq
    rw [h _ _ (by omega) (nb (by omega))]
    unfold iv
    rw [if_pos ⟨rfl, hq⟩]
  have r0 : ∀ {lo hi : Int}, lo ≤ 0 → 0 ≤ hi → gR 0 lo hi := fun a b => ⟨0, a, b, rfl⟩
  have no : ∀ q : Nat, q < 2147483648 → ¬ Int32.ofInt (q : Int) < 0 := fun q hq => oiz q hq
  refine ⟨?_, fun q hq => ?_, fun q j hq hj => ?_, ?_, fun q hq => ?_, ?_, fun q hq => ?_, fun q hq => ?_, fun q j hq hj => ?_, ?_, ?_⟩
  · unfold R_land
    rw [z (a := 1) (k := 1) (by omega), z (a := 105) (k := 2) (by omega)]
    exact ⟨r0 (by decide) (by decide), rfl⟩
  · unfold R_house
    rw [z (a := 3 + 4 * q) (k := 0) (by omega), z (a := 3 + 4 * q) (k := 1) (by omega), z (a := 3 + 4 * q) (k := 2) (by omega), z (a := 3 + 4 * q) (k := 3) (by omega), z (a := 3 + 4 * q) (k := 4) (by omega), z (a := 3 + 4 * q) (k := 5) (by omega), z (a := 3 + 4 * q) (k := 6) (by omega), z7 q hq, z8 q hq, z (a := 3 + 4 * q) (k := 9) (by omega), z (a := 3 + 4 * q) (k := 10) (by omega), z (a := 3 + 4 * q) (k := 11) (by omega), z (a := 106) (k := q) (by omega), z (a := 107) (k := q) (by omega), z (a := 108) (k := q) (by omega), z (a := 109) (k := q) (by omega), z (a := 110) (k := q) (by omega), z (a := 111) (k := q) (by omega), z (a := 112) (k := q) (by omega), z (a := 113) (k := q) (by omega), z (a := 114) (k := q) (by omega), z (a := 117) (k := q) (by omega), z (a := 119) (k := q) (by omega), z (a := 120) (k := q) (by omega), z (a := 1) (k := 1) (by omega)]
    exact ⟨⟨rfl, rfl, rfl, rfl, rfl, rfl, rfl⟩, ⟨by decide, rfl, rfl, rfl⟩, ⟨r0 (by decide) (by decide), r0 (by decide) (by decide), r0 (by decide) (by decide), r0 (by decide) (by decide), r0 (by decide) (by decide), r0 (by decide) (by decide), r0 (by decide) (by decide), Or.inl rfl, Or.inl rfl, r0 (by decide) (by decide)⟩, fun w => absurd w (no q (by omega)), fun _ => ⟨rfl, rfl, rfl, rfl, rfl, rfl⟩, ⟨-9, by decide, by decide, rfl⟩⟩
  · unfold R_pil
    rw [z (a := 3 + 4 * q + 1) (k := j) (by omega), z (a := 3 + 4 * q + 2) (k := j) (by omega), z (a := 3 + 4 * q + 3) (k := j) (by omega), z (a := 115) (k := 6 * q + j) (by omega), z (a := 116) (k := 6 * q + j) (by omega), z (a := 118) (k := 6 * q + j) (by omega), z (a := 114) (k := q) (by omega)]
    exact ⟨rfl, rfl, fun _ => rfl, r0 (by decide) (by decide), r0 (by decide) (by decide), r0 (by decide) (by decide)⟩
  · unfold R_chain
    rw [z (a := 91) (k := 4) (by omega), z (a := 105) (k := 21) (by omega)]
    exact ⟨r0 (by decide) (by decide), rfl⟩
  · unfold R_ch
    rw [z (a := 92) (k := q) (by omega), z (a := 93) (k := q) (by omega), z (a := 94) (k := q) (by omega), z (a := 95) (k := q) (by omega), z (a := 124) (k := q) (by omega), z (a := 125) (k := q) (by omega), z (a := 126) (k := q) (by omega), z (a := 127) (k := q) (by omega)]
    exact ⟨rfl, rfl, rfl, rfl, r0 (by decide) (by decide), r0 (by decide) (by decide), r0 (by decide) (by decide), r0 (by decide) (by decide)⟩
  · unfold R_book
    rw [z (a := 35) (k := 2) (by omega), z (a := 105) (k := 26) (by omega)]
    exact ⟨r0 (by decide) (by decide), rfl⟩
  · unfold R_rep
    rw [z (a := 43 + q) (k := 0) (by omega), z (a := 43 + q) (k := 1) (by omega), z (a := 43 + q) (k := 2) (by omega), z (a := 43 + q) (k := 3) (by omega), z (a := 43 + q) (k := 4) (by omega), z (a := 128) (k := q) (by omega), z (a := 129) (k := q) (by omega), z (a := 130) (k := q) (by omega), z (a := 131) (k := q) (by omega), z (a := 132) (k := q) (by omega), z (a := 35) (k := 2) (by omega)]
    exact ⟨⟨rfl, rfl, rfl, rfl⟩, fun w => absurd w (no q (by omega)), Or.inl rfl, Or.inl rfl, r0 (by decide) (by decide), r0 (by decide) (by decide), r0 (by decide) (by decide), fun _ => r0 (by decide) (by decide)⟩
  · exact Or.inl ⟨z (by omega), z121 q hq⟩
  · unfold R_cell
    rw [z (a := 97 + 2 * q + 1) (k := j) (by omega), z (a := 123) (k := 40 * q + j) (by omega)]
  · rw [z (a := 0) (k := 7) (by omega), z (a := 105) (k := 1) (by omega)]
  · unfold R_gs
    rw [z (a := 105) (k := 32) (by omega), z (a := 105) (k := 33) (by omega), z (a := 105) (k := 34) (by omega), z (a := 105) (k := 35) (by omega), z (a := 105) (k := 36) (by omega), z (a := 105) (k := 43) (by omega), z (a := 105) (k := 48) (by omega)]
    exact ⟨⟨r0 (by decide) (by decide), r0 (by decide) (by decide), r0 (by decide) (by decide), r0 (by decide) (by decide), Or.inl rfl⟩, r0 (by decide) (by decide), r0 (by decide) (by decide), fun q hq w => absurd w (no q (by omega))⟩
theorem am_first {X : am_X} {Q : Option Value → am_M → Prop} (k : ∀ I J, Inv I → am_wp X 10 231 18 [.ref am_scr, .ref 0, .ref 105, .int 0] [] (am_N I J) Q) : am_wp X 10 231 0 [.ref am_scr, am_uv, am_uv, am_uv] [] am_00 Q := by
  obtain ⟨σ1, I, J, h1, h2, h3, h4, h5⟩ := am_made
  refine Eq.mpr (am_wp_al (i := .new 7) (len := 3) (st' := [.ref 0]) (σ' := am_mk am_00 9 9) (by decide +kernel) rfl rfl rfl rfl rfl (by rfl)) ?_
  refine Eq.mpr (r_dup (pc := 3) (by decide +kernel) rfl) ?_
  obtain ⟨pp, hc⟩ := am_tce (o := T_own 231) (k := 9) (kd := 4) (m := 76) (n := 0) (by decide +kernel)
  refine Eq.mpr (r_ci (d := 9) (pc := 4) (k := 9) (kd := 4) (m := 76) (n := 0) (a := 0) (as := []) (r := [.ref 0]) (by decide +kernel) hc (Or.inl rfl) rfl rfl (Nat.zero_le _) (by decide) (by decide) (by decide +kernel)) ?_
  refine ⟨4000, none, σ1, ?_, ?_⟩
  · exact am_evX X 4000 9 76 0 _ _ _ _ h1
  refine am_aft0 ?_
  refine g_asn (i := 1) (pc := 7) (by decide +kernel) (by decide) (Or.inr rfl) rfl ?_
  refine Eq.mpr (am_wp_al (i := .new 10) (pc := 8) (len := 3) (st' := [.ref 105]) (σ' := am_mk σ1 10 58) (by decide +kernel) rfl rfl rfl rfl rfl ?_) ?_
  · have hn : T_new (T_own 231) 10 = some (10, (T_new (T_own 231) 10).get (by decide +kernel) |>.2) := by decide +kernel
    unfold am_al
    dsimp only
    rw [hn]
    show (if σ1.1.length < am_scr ∧ σ1.2.2.2.1.length = σ1.1.length then some (3, Value.ref σ1.1.length :: [], am_mk σ1 10 (am_nf 10)) else none) = _
    rw [h2, h3, if_pos (by decide)]
    rfl
  refine Eq.mpr (r_dup (pc := 11) (by decide +kernel) rfl) ?_
  obtain ⟨pp2, hc2⟩ := am_tce (o := T_own 231) (k := 12) (kd := 4) (m := 140) (n := 0) (by decide +kernel)
  refine Eq.mpr (r_ci (d := 9) (pc := 12) (k := 12) (kd := 4) (m := 140) (n := 0) (a := 105) (as := []) (r := [.ref 105]) (by decide +kernel) hc2 (Or.inl rfl) rfl rfl (Nat.zero_le _) (by decide) (by decide) (by decide +kernel)) ?_
  refine ⟨4000, none, am_N I J, ?_, ?_⟩
  · exact am_evX X 4000 9 140 0 _ _ _ _ h4
  refine am_aft0 ?_
  refine g_asn (i := 2) (pc := 15) (by decide +kernel) (by decide) (Or.inr rfl) rfl ?_
  refine Eq.mpr (r_ic (z := 0) (v := 0) (pc := 16) (by decide +kernel) (by decide +kernel)) ?_
  refine g_isn (i := 3) (pc := 17) (by decide +kernel) (by decide) (Or.inr rfl) rfl ?_
  exact k I J (Inv.of_iv h5)
