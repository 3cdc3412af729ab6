/-! P1: next: what it answers -/
def q_next (x0 x1 : Int32) : Int32 := if v_isForce x0 = 0 then -2 else if v_isWithin x1 0 2 = 0 then -2 else if x1 = 0 then Int32.ofInt (((nx_M x0.toNatClampNeg 144).2 / 12 : Nat) : Int) else if x1 = 1 then Int32.ofInt (((nx_M x0.toNatClampNeg 144).2 % 12 : Nat) : Int) else Int32.ofInt (((nx_M x0.toNatClampNeg 144).1 : Nat) : Int)
theorem p1_force {x : Int32} (h : ¬ v_isForce x = 0) : ∃ V : Nat, 1 ≤ V ∧ V ≤ 240 ∧ x = Int32.ofInt V := by
  obtain ⟨g1, g2⟩ := am_w1 (x := x) (a := 1) (b := 240) h
  obtain ⟨z, rfl, h1, h2⟩ := oi_of x
  have g1 : ¬ Int32.ofInt z < Int32.ofInt 1 := g1
  have g2 : ¬ Int32.ofInt 240 < Int32.ofInt z := g2
  rw [oi_lt (by omega) (by omega)] at g1 g2
  exact ⟨z.toNat, by omega, by omega, by congr 1; omega⟩
theorem a_103 {X : am_X} {d : Nat} {I : Nat → Nat → Int32} {J : Nat → Nat → Int64} {Q : Option Value → am_M → Prop} {x0 : Int32} {x1 : Int32} (hA : p1_A I) (k : ∀ I' J', am_ag I I' → Q (some (.int (q_next x0 x1))) (am_N I' J')) : am_wp X (d + 6) 103 0 [.ref 0, .int x0, .int x1] [] (am_N I J) Q := by
  refine c_103 ⟨fun h1 => am_qi (by unfold q_next; rw [if_pos h1]) (k _ _ am_ag.rf), fun h1 => ⟨fun h2 => am_qi (by unfold q_next; rw [if_neg h1, if_pos h2]) (k _ _ am_ag.rf), fun h2 => ⟨⟨hA.2.2.2.1, hA.1, hA.2.1⟩, fun I1 hp => ⟨fun h => ?_, fun _ => ?_⟩⟩⟩⟩
  · rw [hp.2.2.1] at h
    exact absurd h (by decide)
  · obtain ⟨V, hV1, hV2, rfl⟩ := p1_force h1
    have hcl : (Int32.ofInt (V : Int)).toNatClampNeg = V := oi_cln (by omega)
    refine ⟨⟨⟨V, hV1, hV2, rfl⟩, by rw [hp.1 88 (by decide) (by decide) (by decide) (by decide) (by decide)]; exact hA.2.2.2.2.2.1, hp.2.2.1, hp.2.2.2.1⟩, fun I2 hq => ?_⟩
    have ha : am_ag I I2 := hp.ag.tr (fun a ha => hq.1 a (by omega) (by omega))
    obtain ⟨e1, e2⟩ := hq.2 V hV1 hV2 rfl
    have hM := (nx_M_le V 144).2 (Nat.le_refl _)
    refine ⟨fun h3 => am_qi ?_ (k _ _ ha), fun h3 => am_qi ?_ (k _ _ ha), fun h3 h4 => am_qi ?_ (k _ _ ha)⟩
    · unfold q_next
      rw [if_neg h1, if_neg h2, if_pos h3, hcl, e1, show (12 : Int32) = Int32.ofInt 12 from rfl, oi_div (by omega) (by omega) (by omega) (by omega)]
      rfl
    · unfold q_next
      rw [if_neg h1, if_neg h2, if_neg (am_neq h3 (by decide)), if_pos h3, hcl, e1, show (12 : Int32) = Int32.ofInt 12 from rfl, oi_rem (by omega) (by omega) (by omega) (by omega)]
      rfl
    · unfold q_next
      rw [if_neg h1, if_neg h2, if_neg h3, if_neg h4, hcl, e2]
theorem b_216 {X : am_X} {d : Nat} {I : Nat → Nat → Int32} {J : Nat → Nat → Int64} {Q : Option Value → am_M → Prop} {x0 : Int32} {x1 : Int32} (hB : p1_B I) (k : ∀ I' J', Q (some (.int (q_next x0 x1))) (am_N I' J')) : am_wp X (d + 5) 216 0 [.ref 105, .int x0, .int x1, am_uv, am_uv, am_uv] [] (am_N I J) Q := by
  refine c_216 ⟨fun h1 => am_qi (by unfold q_next; exact if_pos h1) (k _ _), fun h1 => ⟨fun h2 => am_qi (by unfold q_next; exact (if_neg h1).trans (if_pos h2)) (k _ _), fun h2 => ⟨⟨hB.2.2.1, hB.2.2.2.2.1⟩, fun I1 hp => ⟨fun h => ?_, fun _ I2 hw => ?_⟩⟩⟩⟩
  · rw [hp.1] at h
    exact absurd h (by decide)
  obtain ⟨V, hV1, hV2, rfl⟩ := p1_force h1
  have hcl : (Int32.ofInt (V : Int)).toNatClampNeg = V := oi_cln (by omega)
  have q0 : x1 = 0 → q_next (Int32.ofInt (V : Int)) x1 = Int32.ofInt (((nx_M V 144).2 / 12 : Nat) : Int) := fun h3 => by
    unfold q_next
    rw [hcl]
    exact (if_neg h1).trans ((if_neg h2).trans (if_pos h3))
  have q1 : ¬ x1 = 0 → x1 = 1 → q_next (Int32.ofInt (V : Int)) x1 = Int32.ofInt (((nx_M V 144).2 % 12 : Nat) : Int) := fun h3 h4 => by
    unfold q_next
    rw [hcl]
    exact (if_neg h1).trans ((if_neg h2).trans ((if_neg h3).trans (if_pos h4)))
  have q2 : ¬ x1 = 0 → ¬ x1 = 1 → q_next (Int32.ofInt (V : Int)) x1 = Int32.ofInt (((nx_M V 144).1 : Nat) : Int) := fun h3 h4 => by
    unfold q_next
    rw [hcl]
    exact (if_neg h1).trans ((if_neg h2).trans ((if_neg h3).trans (if_neg h4)))
  have hfr0 : p1_fr (am_up I2 105 54 13825) := by
    refine ⟨?_, fun q hq => ?_, fun a b ha hb => ?_⟩
    · show I2 105 43 = 13824
      rw [hw.1 105 (by decide)]
      exact hp.1
    · show I2 136 q = _
      rw [hw.1 136 (by decide)]
      exact hp.2.1 q hq
    · exact hw.2 a b ha hb
  refine am_down (N := 12) (P := fun x => ∀ (I : Nat → Nat → Int32) (u4 u5 : Value), u4.category = 1 → u5.category = 1 → p1_fr I → I 105 54 = Int32.ofInt (((nx_M V (12 * x)).1 : Nat) : Int) → (0 < x → I 105 52 = Int32.ofInt (((nx_M V (12 * x)).2 / 12 : Nat) : Int) ∧ I 105 53 = Int32.ofInt (((nx_M V (12 * x)).2 % 12 : Nat) : Int)) → am_wp X (d + 5) 216 46 [.ref 105, .int (Int32.ofInt V), .int x1, .int (Int32.ofInt x), u4, u5] [] (am_N I J) Q) ?_ ?_ 0 (by decide) _ am_uv am_uv rfl rfl hfr0 rfl (fun h => absurd h (Nat.lt_irrefl 0))
  · intro I u4 u5 hu4 hu5 hf e1 e2
    refine c_216_46 hu4 hu5 ⟨fun _ => ⟨fun h3 => am_qi ?_ (k _ _), fun h3 => ⟨fun h4 => am_qi ?_ (k _ _), fun h4 => am_qi ?_ (k _ _)⟩⟩, fun h => absurd (show Int32.ofInt 12 ≤ Int32.ofInt 12 from Int32.le_refl _) h⟩
    · rw [q0 h3, (e2 (by decide)).1]
    · rw [q1 h3 h4, (e2 (by decide)).2]
    · rw [q2 h3 h4, e1]
  · intro x hx ih I u4 u5 hu4 hu5 hf e1 e2
    refine c_216_46 hu4 hu5 ⟨fun h => ?_, fun _ => ?_⟩
    · have h : Int32.ofInt 12 ≤ Int32.ofInt x := h
      rw [oi_le (by omega) (by omega)] at h
      omega
    refine am_down (N := 12) (P := fun y => ∀ (I : Nat → Nat → Int32) (u5 : Value), u5.category = 1 → p1_fr I → I 105 54 = Int32.ofInt (((nx_M V (12 * x + y)).1 : Nat) : Int) → (0 < 12 * x + y → I 105 52 = Int32.ofInt (((nx_M V (12 * x + y)).2 / 12 : Nat) : Int) ∧ I 105 53 = Int32.ofInt (((nx_M V (12 * x + y)).2 % 12 : Nat) : Int)) → am_wp X (d + 5) 216 55 [.ref 105, .int (Int32.ofInt V), .int x1, .int (Int32.ofInt x), .int (Int32.ofInt y), u5] [] (am_N I J) Q) ?_ ?_ 0 (by decide) I u5 hu5 hf e1 (fun h => e2 (by omega))
    · intro I u5 hu5 hf e1 e2
      refine c_216_55 hu5 ⟨fun _ => ?_, fun h => absurd (show Int32.ofInt 12 ≤ Int32.ofInt 12 from Int32.le_refl _) h⟩
      rw [oi_succ]
      exact ih I _ _ rfl hu5 hf e1 (fun _ => e2 (by omega))
    · intro y hy ih2 I u5 hu5 hf e1 e2
      refine c_216_55 hu5 ⟨fun h => ?_, fun _ => ⟨⟨⟨x, y, V, hx, hy, hV1, hV2, rfl, rfl, rfl⟩, hf⟩, fun r1 I3 hq => ?_⟩⟩
      · have h : Int32.ofInt 12 ≤ Int32.ofInt y := h
        rw [oi_le (by omega) (by omega)] at h
        omega
      · have hr := hq.2 x y V hx hy hV1 hV2 rfl rfl rfl
        subst hr
        have hs := hq.1
        have hf3 := hf.same hs
        have hG : nx_G x y V ≤ 13824 := nx_G_le
        have hMp := (nx_M_le V (12 * x + y)).1
        have eM : nx_M V (12 * x + y + 1) = if nx_G x y V < (nx_M V (12 * x + y)).1 then (nx_G x y V, 12 * x + y) else nx_M V (12 * x + y) := by
          show (if nx_G ((12 * x + y) / 12) ((12 * x + y) % 12) V < (nx_M V (12 * x + y)).1 then (nx_G ((12 * x + y) / 12) ((12 * x + y) % 12) V, 12 * x + y) else nx_M V (12 * x + y)) = _
          rw [show (12 * x + y) / 12 = x by omega, show (12 * x + y) % 12 = y by omega]
        rw [oi_succ, hs.2 54 (by decide), e1, oi_le (by omega) (by omega)]
        refine ⟨fun hle => ?_, fun hle => ?_⟩
        · have h0 : 0 < 12 * x + y := by
            rcases Nat.eq_zero_or_pos (12 * x + y) with z | z
            · rw [z] at hle
              have hle : ((13825 : Nat) : Int) ≤ _ := hle
              omega
            · exact z
          refine ih2 I3 _ rfl hf3 ?_ (fun _ => ?_)
          · rw [← Nat.add_assoc, eM, if_neg (by omega), hs.2 54 (by decide)]
            exact e1
          · rw [← Nat.add_assoc, eM, if_neg (by omega), hs.2 52 (by decide), hs.2 53 (by decide)]
            exact e2 h0
        · refine ih2 _ _ rfl ?_ ?_ (fun _ => ?_)
          · exact ⟨hf3.1, hf3.2.1, hf3.2.2⟩
          · rw [← Nat.add_assoc, eM, if_pos (by omega)]
            rfl
          · rw [← Nat.add_assoc, eM, if_pos (by omega)]
            refine ⟨?_, ?_⟩
            · show Int32.ofInt (x : Int) = Int32.ofInt (((12 * x + y) / 12 : Nat) : Int)
              rw [show (12 * x + y) / 12 = x by omega]
            · show Int32.ofInt (y : Int) = Int32.ofInt (((12 * x + y) % 12 : Nat) : Int)
              rw [show (12 * x + y) % 12 = y by omega]
