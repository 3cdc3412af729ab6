/-! P1: fits, fit, span, nearest, mistaken: what they answer -/
theorem p1_wn {x : Int32} {n : Nat} (hn : n < 2147483648) (h : ¬ v_within x 0 (Int32.ofInt n) = 0) : ∃ w : Nat, w ≤ n ∧ x = Int32.ofInt w := by
  obtain ⟨g1, g2⟩ := am_w1 h
  obtain ⟨z, rfl, h1, h2⟩ := oi_of x
  have g1 : ¬ Int32.ofInt z < Int32.ofInt 0 := g1
  rw [oi_lt (by omega) (by omega)] at g1 g2
  exact ⟨z.toNat, by omega, by congr 1; omega⟩
theorem p1_rng {x : Int32} {n : Nat} (hn : n < 2147483648) (h1 : ¬ x < 0) (h2 : x < Int32.ofInt n) : ∃ w : Nat, w < n ∧ x = Int32.ofInt w := by
  obtain ⟨z, rfl, a1, a2⟩ := oi_of x
  have h1 : ¬ Int32.ofInt z < Int32.ofInt 0 := h1
  rw [oi_lt (by omega) (by omega)] at h1 h2
  exact ⟨z.toNat, by omega, by congr 1; omega⟩
def q_fit (x0 x1 : Int32) : Int32 := if x0 < 0 then -1 else if x0 < 13824 then (if v_isWithin x1 0 4 = 0 then -2 else v_partOfGuess (x0 / 24) (am_rem x0 24) x1) else -1
def q_span (x0 x1 : Int32) : Int32 := if v_isWithin x0 0 5 = 0 then -2 else if v_isWithin x1 0 1 = 0 then -2 else if x1 = 0 then p1_least x0.toNatClampNeg else p1_great x0.toNatClampNeg
def q_near (x : Int32) : Int32 := if v_isWithin x 0 6 = 0 then -2 else if x = 5 then 0 else if x = 6 then 0 else v_partOfGuess 0 0 x
theorem p1_gp0 {m : Nat} (hm : m < 13824) : Int32.ofInt (m : Int) / 1152 = Int32.ofInt ((m / 1152 : Nat) : Int) := by
  rw [show (1152 : Int32) = Int32.ofInt 1152 from rfl, oi_div (by omega) (by omega) (by omega) (by omega)]
  rfl
theorem p1_gp1 {m : Nat} (hm : m < 13824) : am_rem (Int32.ofInt (m : Int) / 96) 12 = Int32.ofInt ((m / 96 % 12 : Nat) : Int) := by
  rw [show (96 : Int32) = Int32.ofInt 96 from rfl, show (12 : Int32) = Int32.ofInt 12 from rfl, oi_div (by omega) (by omega) (by omega) (by omega), oi_rem (by omega) (by omega) (by omega) (by omega)]
  rfl
theorem p1_gp2 {m : Nat} (hm : m < 13824) : am_rem (Int32.ofInt (m : Int) / 24) 4 = Int32.ofInt ((m / 24 % 4 : Nat) : Int) := by
  rw [show (24 : Int32) = Int32.ofInt 24 from rfl, show (4 : Int32) = Int32.ofInt 4 from rfl, oi_div (by omega) (by omega) (by omega) (by omega), oi_rem (by omega) (by omega) (by omega) (by omega)]
  rfl
theorem p1_gp3 {m : Nat} (hm : m < 13824) : am_rem (Int32.ofInt (m : Int) / 2) 12 + 1 = Int32.ofInt ((m / 2 % 12 + 1 : Nat) : Int) := by
  rw [show (2 : Int32) = Int32.ofInt 2 from rfl, show (12 : Int32) = Int32.ofInt 12 from rfl, oi_div (by omega) (by omega) (by omega) (by omega), oi_rem (by omega) (by omega) (by omega) (by omega), show (1 : Int32) = Int32.ofInt 1 from rfl, oi_add]
  rfl
theorem p1_gp4 {m : Nat} (hm : m < 13824) : am_rem (Int32.ofInt (m : Int)) 2 = Int32.ofInt ((m % 2 : Nat) : Int) := by
  rw [show (2 : Int32) = Int32.ofInt 2 from rfl, oi_rem (by omega) (by omega) (by omega) (by omega)]
  rfl
def p1_gn (m w : Nat) : Nat := if w = 0 then m / 1152 else if w = 1 then m / 96 % 12 else if w = 2 then m / 24 % 4 else if w = 3 then m / 2 % 12 + 1 else m % 2
theorem p1_gpw {m w : Nat} (hm : m < 13824) (hw : w < 5) : v_gpart (Int32.ofInt (m : Int)) (Int32.ofInt (w : Int)) = Int32.ofInt (p1_gn m w : Nat) := by
  have : w = 0 ∨ w = 1 ∨ w = 2 ∨ w = 3 ∨ w = 4 := by omega
  rcases this with rfl | rfl | rfl | rfl | rfl
  · exact p1_gp0 hm
  · exact p1_gp1 hm
  · exact p1_gp2 hm
  · exact p1_gp3 hm
  · exact p1_gp4 hm
theorem p1_gle {m w : Nat} (hm : m < 13824) (hw : w < 5) : p1_least w ≤ v_gpart (Int32.ofInt (m : Int)) (Int32.ofInt (w : Int)) ∧ v_gpart (Int32.ofInt (m : Int)) (Int32.ofInt (w : Int)) ≤ p1_great w := by
  rw [p1_gpw hm hw]
  have : w = 0 ∨ w = 1 ∨ w = 2 ∨ w = 3 ∨ w = 4 := by omega
  rcases this with rfl | rfl | rfl | rfl | rfl
  · show Int32.ofInt 0 ≤ Int32.ofInt ((m / 1152 : Nat) : Int) ∧ Int32.ofInt ((m / 1152 : Nat) : Int) ≤ Int32.ofInt 11
    rw [oi_le (by omega) (by omega), oi_le (by omega) (by omega)]
    omega
  · show Int32.ofInt 0 ≤ Int32.ofInt ((m / 96 % 12 : Nat) : Int) ∧ Int32.ofInt ((m / 96 % 12 : Nat) : Int) ≤ Int32.ofInt 11
    rw [oi_le (by omega) (by omega), oi_le (by omega) (by omega)]
    omega
  · show Int32.ofInt 0 ≤ Int32.ofInt ((m / 24 % 4 : Nat) : Int) ∧ Int32.ofInt ((m / 24 % 4 : Nat) : Int) ≤ Int32.ofInt 3
    rw [oi_le (by omega) (by omega), oi_le (by omega) (by omega)]
    omega
  · show Int32.ofInt 1 ≤ Int32.ofInt ((m / 2 % 12 + 1 : Nat) : Int) ∧ Int32.ofInt ((m / 2 % 12 + 1 : Nat) : Int) ≤ Int32.ofInt 12
    rw [oi_le (by omega) (by omega), oi_le (by omega) (by omega)]
    omega
  · show Int32.ofInt 0 ≤ Int32.ofInt ((m % 2 : Nat) : Int) ∧ Int32.ofInt ((m % 2 : Nat) : Int) ≤ Int32.ofInt 1
    rw [oi_le (by omega) (by omega), oi_le (by omega) (by omega)]
    omega
theorem p1_gend : ∀ w, w < 5 → v_gpart 13823 (Int32.ofInt (w : Nat)) = p1_great w ∧ v_gpart 0 (Int32.ofInt (w : Nat)) = p1_least w ∧ p1_least w ≤ p1_great w := by decide +kernel
theorem p1_peq {n : Nat} (hn : n < 13824) (w : Int32) : v_gpart (Int32.ofInt (n : Int)) w = v_partOfGuess (Int32.ofInt (n : Int) / 24) (am_rem (Int32.ofInt (n : Int)) 24) w := by
  have e1 : Int32.ofInt (n : Int) / 24 = Int32.ofInt ((n / 24 : Nat) : Int) := by
    rw [show (24 : Int32) = Int32.ofInt 24 from rfl, oi_div (by omega) (by omega) (by omega) (by omega)]
    rfl
  have e2 : am_rem (Int32.ofInt (n : Int)) 24 = Int32.ofInt ((n % 24 : Nat) : Int) := by
    rw [show (24 : Int32) = Int32.ofInt 24 from rfl, oi_rem (by omega) (by omega) (by omega) (by omega)]
    rfl
  unfold v_gpart v_partOfGuess
  rw [e1, e2]
  by_cases h0 : w = 0
  · rw [if_pos h0, if_pos h0, p1_gp0 hn]
    unfold v_xOf
    rw [show (48 : Int32) = Int32.ofInt 48 from rfl, oi_div (by omega) (by omega) (by omega) (by omega)]
    congr 1
    omega
  rw [if_neg h0, if_neg h0]
  by_cases h1 : w = 1
  · rw [if_pos h1, if_pos h1, ← e1, e1, p1_gp1 hn]
    unfold v_yOf
    rw [show (4 : Int32) = Int32.ofInt 4 from rfl, show (12 : Int32) = Int32.ofInt 12 from rfl, oi_div (by omega) (by omega) (by omega) (by omega), oi_rem (by omega) (by omega) (by omega) (by omega)]
    congr 1
    omega
  rw [if_neg h1, if_neg h1]
  by_cases h2 : w = 2
  · rw [if_pos h2, if_pos h2]
    rfl
  rw [if_neg h2, if_neg h2]
  by_cases h3 : w = 3
  · rw [if_pos h3, if_pos h3, p1_gp3 hn, show (2 : Int32) = Int32.ofInt 2 from rfl, oi_div (by omega) (by omega) (by omega) (by omega), show (1 : Int32) = Int32.ofInt 1 from rfl, oi_add]
    congr 1
    omega
  rw [if_neg h3, if_neg h3, p1_gp4 hn, show (2 : Int32) = Int32.ofInt 2 from rfl, oi_rem (by omega) (by omega) (by omega) (by omega)]
  congr 1
  omega
theorem a_94 {X : am_X} {d : Nat} {I : Nat → Nat → Int32} {J : Nat → Nat → Int64} {Q : Option Value → am_M → Prop} (hA : p1_A I) (k : ∀ I' J', am_ag I I' → Q (some (.int (13824))) (am_N I' J')) : am_wp X (d + 6) 94 0 [.ref 0] [] (am_N I J) Q := c_94 ⟨⟨hA.2.2.2.1, hA.1, hA.2.1⟩, fun I1 hp => am_qi hp.2.2.1.symm (k _ _ hp.ag)⟩
theorem a_100 {X : am_X} {d : Nat} {I : Nat → Nat → Int32} {J : Nat → Nat → Int64} {Q : Option Value → am_M → Prop} (hA : p1_A I) (k : ∀ I' J', am_ag I I' → Q (some (.int (0))) (am_N I' J')) : am_wp X (d + 6) 100 0 [.ref 0] [] (am_N I J) Q := c_100 ⟨⟨hA.2.2.2.1, hA.1, hA.2.1⟩, fun I1 hp => ⟨by rw [hp.2.2.1]; decide, k _ _ hp.ag⟩⟩
theorem a_95 {X : am_X} {d : Nat} {I : Nat → Nat → Int32} {J : Nat → Nat → Int64} {Q : Option Value → am_M → Prop} {x0 : Int32} {x1 : Int32} (hA : p1_A I) (k : ∀ I' J', am_ag I I' → Q (some (.int (q_fit x0 x1))) (am_N I' J')) : am_wp X (d + 6) 95 0 [.ref 0, .int x0, .int x1] [] (am_N I J) Q := by
  refine c_95 ⟨⟨hA.2.2.2.1, hA.1, hA.2.1⟩, fun I1 hp => ?_⟩
  rw [hp.2.2.1]
  refine ⟨fun h1 => am_qi (by unfold q_fit; rw [if_pos h1]) (k _ _ hp.ag), fun h1 => ⟨fun h2 => ⟨fun h3 => am_qi (by unfold q_fit; rw [if_neg h1, if_pos h2, if_pos h3]) (k _ _ hp.ag), fun h3 => ⟨⟨p1_rng (n := 13824) (by decide) h1 h2, hp.2.2.2.1⟩, am_qi (by unfold q_fit; rw [if_neg h1, if_pos h2, if_neg h3]) (k _ _ hp.ag)⟩⟩, fun h2 => am_qi (by unfold q_fit; rw [if_neg h1, if_neg h2]) (k _ _ hp.ag)⟩⟩
theorem a_96 {X : am_X} {d : Nat} {I : Nat → Nat → Int32} {J : Nat → Nat → Int64} {Q : Option Value → am_M → Prop} {x0 : Int32} {x1 : Int32} (hA : p1_A I) (k : ∀ I' J', am_ag I I' → Q (some (.int (q_span x0 x1))) (am_N I' J')) : am_wp X (d + 6) 96 0 [.ref 0, .int x0, .int x1] [] (am_N I J) Q := by
  refine c_96 ⟨fun h1 => am_qi (by unfold q_span; rw [if_pos h1]) (k _ _ am_ag.rf), fun h1 => ⟨fun h2 => am_qi (by unfold q_span; rw [if_neg h1, if_pos h2]) (k _ _ am_ag.rf), fun h2 => ⟨⟨hA.2.2.2.1, hA.1, hA.2.1⟩, fun I1 hp => ?_⟩⟩⟩
  obtain ⟨w, hw, rfl⟩ := p1_wn (n := 5) (by decide) h1
  have hx : am_ix (Int32.ofInt (w : Int)) 6 := oi_ix (by omega) (by omega) (by omega)
  have hcl : (Int32.ofInt (w : Int)).toNatClampNeg = w := oi_cln (by omega)
  have e := hp.2.2.2.2 w (by omega)
  refine ⟨fun h => ?_, fun _ => ⟨fun h3 => ⟨hx, am_qi ?_ (k _ _ hp.ag)⟩, fun h3 => ⟨hx, am_qi ?_ (k _ _ hp.ag)⟩⟩⟩
  · rw [hp.2.2.1] at h
    exact absurd h (by decide)
  · unfold q_span
    rw [if_neg h1, if_neg h2, if_pos h3, hcl, e.1]
  · unfold q_span
    rw [if_neg h1, if_neg h2, if_neg h3, hcl, e.2]
theorem a_98 {X : am_X} {d : Nat} {I : Nat → Nat → Int32} {J : Nat → Nat → Int64} {Q : Option Value → am_M → Prop} {x0 : Int32} (hA : p1_A I) (k : ∀ I' J', am_ag I I' → Q (some (.int (q_near x0))) (am_N I' J')) : am_wp X (d + 6) 98 0 [.ref 0, .int x0] [] (am_N I J) Q := by
  have z1 : I 1 1 ≤ 0 := am_le0 hA.1
  have z2 : I 35 2 ≤ 0 := am_le0 hA.2.1
  have hl : (0 + v_lbc 0) - 0 = 0 := by decide +kernel
  refine c_98 ⟨fun h1 => am_qi (by unfold q_near; rw [if_pos h1]) (k _ _ am_ag.rf), fun h1 => ⟨hA.2.2.2.2.1, z1, z2, z2, z2, z2, z2, by decide, by rw [hl]; decide, by decide, by rw [hl]; decide, by decide, by rw [hl]; decide, fun h2 => ?_, fun h2 => ?_, fun h2 h3 => ?_⟩⟩
  · exact am_qi (by unfold q_near; rw [if_neg h1, if_pos h2]) (k _ _ ((((((((am_ag.rf.up (by decide)).up (by decide)).up (by decide)).up (by decide)).up (by decide)).up (by decide)).up (by decide)).up (by decide)))
  · exact am_qi (by unfold q_near; rw [if_neg h1, if_neg (am_neq h2 (by decide)), if_pos h2, hl]) (k _ _ ((((((((am_ag.rf.up (by decide)).up (by decide)).up (by decide)).up (by decide)).up (by decide)).up (by decide)).up (by decide)).up (by decide)))
  · exact am_qi (by unfold q_near; rw [if_neg h1, if_neg h2, if_neg h3]) (k _ _ ((((((((am_ag.rf.up (by decide)).up (by decide)).up (by decide)).up (by decide)).up (by decide)).up (by decide)).up (by decide)).up (by decide)))
theorem b_196 {X : am_X} {d : Nat} {I : Nat → Nat → Int32} {J : Nat → Nat → Int64} {Q : Option Value → am_M → Prop} (hB : p1_B I) (k : ∀ I' J', Q (some (.int (13824))) (am_N I' J')) : am_wp X (d + 5) 196 0 [.ref 105] [] (am_N I J) Q := c_196 ⟨⟨hB.2.2.1, hB.2.2.2.2.1⟩, fun I1 hp => am_qi hp.1.symm (k _ _)⟩
theorem b_211 {X : am_X} {d : Nat} {I : Nat → Nat → Int32} {J : Nat → Nat → Int64} {Q : Option Value → am_M → Prop} (hB : p1_B I) (k : ∀ I' J', Q (some (.int (0))) (am_N I' J')) : am_wp X (d + 5) 211 0 [.ref 105, am_uv, am_uv] [] (am_N I J) Q := c_211 ⟨am_le0 hB.2.2.1, am_le0 hB.2.2.2.2.1, k _ _⟩
theorem b_198 {X : am_X} {d : Nat} {I : Nat → Nat → Int32} {J : Nat → Nat → Int64} {Q : Option Value → am_M → Prop} {x0 : Int32} {x1 : Int32} (hB : p1_B I) (k : ∀ I' J', Q (some (.int (q_fit x0 x1))) (am_N I' J')) : am_wp X (d + 5) 198 0 [.ref 105, .int x0, .int x1] [] (am_N I J) Q := by
  refine c_198 ⟨⟨hB.2.2.1, hB.2.2.2.2.1⟩, fun I1 hp => ?_⟩
  rw [hp.1]
  refine ⟨fun h1 => am_qi (by unfold q_fit; rw [if_pos h1]) (k _ _), fun h1 => ⟨fun h2 => ⟨fun h3 => am_qi (by unfold q_fit; exact (if_neg h1).trans ((if_pos h2).trans (if_pos h3))) (k _ _), fun h3 => ?_⟩, fun h2 => am_qi (by unfold q_fit; rw [if_neg h1, if_neg h2]) (k _ _)⟩⟩
  obtain ⟨n, hn, rfl⟩ := p1_rng (n := 13824) (by decide) h1 h2
  refine ⟨oi_ix (by omega) (by omega) (by omega), am_qi ?_ (k _ _)⟩
  rw [oi_cln (by omega), hp.2.1 n hn, v_part_lay, p1_peq hn]
  unfold q_fit
  exact (if_neg h1).trans ((if_pos h2).trans (if_neg h3))
theorem b_207 {X : am_X} {d : Nat} {I : Nat → Nat → Int32} {J : Nat → Nat → Int64} {Q : Option Value → am_M → Prop} {x0 : Int32} (hB : p1_B I) (k : ∀ I' J', Q (some (.int (q_near x0))) (am_N I' J')) : am_wp X (d + 7) 207 0 [.ref 105, .int x0] [] (am_N I J) Q := by
  have z1 : I 105 2 ≤ 0 := am_le0 hB.2.2.1
  have z2 : I 105 26 ≤ 0 := am_le0 hB.2.2.2.2.1
  refine c_207 ⟨fun h1 => am_qi (by unfold q_near; exact if_pos h1) (k _ _), fun h1 => ⟨z1, z2, z2, z2, by decide, z1, fun h2 => am_qi (by unfold q_near; exact (if_neg h1).trans (if_pos h2)) (k _ _), fun h2 => ⟨fun h3 => am_qi (by unfold q_near; exact (if_neg h1).trans ((if_neg h2).trans (if_pos h3))) (k _ _), fun h3 => am_qi ?_ (k _ _)⟩⟩⟩
  rw [v_part_lay]
  unfold q_near
  refine (if_neg h1).trans ((if_neg h2).trans ((if_neg h3).trans ?_))
  exact (p1_peq (n := 0) (by decide) x0).symm
theorem b_199 {X : am_X} {d : Nat} {I : Nat → Nat → Int32} {J : Nat → Nat → Int64} {Q : Option Value → am_M → Prop} {x0 : Int32} {x1 : Int32} (hB : p1_B I) (k : ∀ I' J', Q (some (.int (q_span x0 x1))) (am_N I' J')) : am_wp X (d + 5) 199 0 [.ref 105, .int x0, .int x1, am_uv, am_uv, am_uv] [] (am_N I J) Q := by
  refine c_199 ⟨fun h1 => am_qi (by unfold q_span; exact if_pos h1) (k _ _), fun h1 => ⟨fun h2 => am_qi (by unfold q_span; exact (if_neg h1).trans (if_pos h2)) (k _ _), fun h2 => ⟨⟨hB.2.2.1, hB.2.2.2.2.1⟩, fun I1 hp => ⟨fun h => ?_, fun _ => ?_⟩⟩⟩⟩
  · rw [hp.1] at h
    exact absurd h (by decide)
  obtain ⟨w, hw, rfl⟩ := p1_wn (n := 5) (by decide) h1
  have hcl : (Int32.ofInt (w : Int)).toNatClampNeg = w := oi_cln (by omega)
  have q0 : x1 = 0 → q_span (Int32.ofInt (w : Int)) x1 = p1_least w := fun h3 => by
    unfold q_span
    rw [hcl]
    exact (if_neg h1).trans ((if_neg h2).trans (if_pos h3))
  have q1 : ¬ x1 = 0 → q_span (Int32.ofInt (w : Int)) x1 = p1_great w := fun h3 => by
    unfold q_span
    rw [hcl]
    exact (if_neg h1).trans ((if_neg h2).trans (if_neg h3))
  refine ⟨fun h5 => ?_, fun h5 => ?_⟩
  · have hw5 : w = 5 := by
      have h5 : Int32.ofInt (w : Int) = Int32.ofInt 5 := h5
      rw [oi_eq (by omega) (by omega)] at h5
      omega
    subst hw5
    refine ⟨fun h3 => am_qi ?_ (k _ _), fun h3 => am_qi ?_ (k _ _)⟩
    · rw [q0 h3, hp.2.2.1]
      rfl
    · rw [q1 h3, hp.2.2.2.1]
      rfl
  · have hw5 : w < 5 := by
      rcases Nat.lt_or_ge w 5 with z | z
      · exact z
      · exfalso
        apply h5
        rw [show w = 5 by omega]
        rfl
    have hge := p1_gend w hw5
    rw [v_part_lay, hp.2.1 0 (by decide), show Int32.ofInt ((0 : Nat) : Int) = 0 from rfl, hge.2.1]
    refine am_down (N := 13824) (P := fun m => ∀ (I : Nat → Nat → Int32) (u : Value) (b : Int32), I 105 43 = 13824 → (∀ h, h < 13824 → I 136 h = Int32.ofInt (h : Nat)) → u.category = 1 → (x1 = 0 → b = p1_least w) → b ≤ p1_great w → (13823 < m → ¬ x1 = 0 → b = p1_great w) → am_wp X (d + 5) 199 75 [.ref 105, .int (Int32.ofInt w), .int x1, .int b, .int (Int32.ofInt m), u] [] (am_N I J) Q) ?_ ?_ 1 (by decide) _ am_uv _ hp.1 hp.2.1 rfl (fun _ => rfl) hge.2.2 (fun h => absurd h (by decide))
    · intro I u b e1 e2 hu e3 e4 e5
      refine c_199_75 hu ⟨fun _ => am_qi ?_ (k _ _), fun h => ?_⟩
      · by_cases h3 : x1 = 0
        · rw [q0 h3, e3 h3]
        · rw [q1 h3, e5 (by decide) h3]
      · rw [e1] at h
        exact absurd (show Int32.ofInt 13824 ≤ Int32.ofInt 13824 from Int32.le_refl _) h
    · intro m hm ih I u b e1 e2 hu e3 e4 e5
      have hmx : am_ix (Int32.ofInt (m : Int)) 13824 := oi_ix (by omega) (by omega) (by omega)
      have hv : v_part (m_lay I (I 136 (Int32.toNatClampNeg (Int32.ofInt (m : Int))))) (Int32.ofInt (w : Int)) = v_gpart (Int32.ofInt (m : Int)) (Int32.ofInt (w : Int)) := by
        rw [v_part_lay, oi_cln (by omega), e2 m hm]
      have hgl := p1_gle hm hw5
      refine c_199_75 hu ⟨fun h => ?_, fun _ => ⟨hmx, fun h3 => ⟨fun h4 => ?_, fun h4 => ?_⟩, fun h3 => ⟨fun h4 => ?_, fun h4 => ?_⟩⟩⟩
      · rw [e1] at h
        have h : Int32.ofInt 13824 ≤ Int32.ofInt m := h
        rw [oi_le (by omega) (by omega)] at h
        omega
      · rw [oi_succ]
        exact ih _ _ b e1 e2 rfl e3 e4 (fun _ z => absurd h3 z)
      · rw [hv, e3 h3] at h4
        exact absurd hgl.1 h4
      · rw [oi_succ]
        refine ih _ _ b e1 e2 rfl e3 e4 (fun hm2 _ => ?_)
        rw [hv] at h4
        have hm3 : m = 13823 := by omega
        subst hm3
        exact Int32.le_antisymm e4 (by rw [← hge.1]; exact h4)
      · rw [oi_succ]
        refine ih _ _ _ e1 e2 rfl (fun z => absurd z h3) (by rw [hv]; exact hgl.2) (fun hm2 _ => ?_)
        have hm3 : m = 13823 := by omega
        subst hm3
        rw [hv]
        exact hge.1
