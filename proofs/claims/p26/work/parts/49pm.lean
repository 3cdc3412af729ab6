theorem f_83 {X : am_X} {d : Nat} {I : Nat → Nat → Int32} {J : Nat → Nat → Int64} {Q : Option Value → am_M → Prop} {x0 : Int32} (hI : Inv I) (hw : Wf I) (hb0 : Bl I) (k : ∀ (v : Option Value) (I1 : Nat → Nat → Int32) (J1 : Nat → Nat → Int64), Fj I I1 → Q v (am_N I1 J1)) : am_wp X (d + 2) 83 0 [.ref 0, .int x0, am_uv] [] (am_N I J) Q := by
  refine c_83 hI ⟨fun h => k _ _ _ (Fj.rf hw hb0), fun hh => ?_⟩
  obtain ⟨hl, hb⟩ := hI.lt hh
  have g := hI.2.1 _ hl
  have g11 : gR (I (3 + 4 * Int32.toNatClampNeg x0) 11) 0 6 := by
    rw [g.2.1.2.2.2]
    exact g.2.2.1.2.2.2.2.2.2.2.2.2
  have fin : ∀ v : Option Value, Q v (am_N (am_fil (am_up (am_up I (3 + 4 * Int32.toNatClampNeg x0) 8 (-9)) (3 + 4 * Int32.toNatClampNeg x0) 9 0) ((3 + 4 * Int32.toNatClampNeg x0) + 3) 6 (-9)) J) := by
    refine fun v => k v _ _ (Fj.fr hI hw (by intro a j q; unfold Ns at q; repeat (first | rw [am_upv, if_neg (by omega)] | rw [am_filv, if_neg (by omega)])) (fun q hq => ?_))
    rw [am_filv, if_neg (by omega), am_upv, if_neg (by omega)]
    by_cases e : q = Int32.toNatClampNeg x0
    · rw [am_upv, if_pos (by omega)]
      exact Or.inl rfl
    · rw [am_upv, if_neg (by omega)]
      exact hb0 q hq
  exact ⟨fun _ => ⟨g11, fun _ => fin _, fun _ => fin _⟩, fun _ => ⟨g11, fun _ => fin _, fun _ => fin _⟩⟩
theorem f_77 {X : am_X} {d : Nat} {I : Nat → Nat → Int32} {J : Nat → Nat → Int64} {Q : Option Value → am_M → Prop} {x0 : Int32} {x1 : Int32} {x2 : Int32} {x3 : Int32} {x4 : Int32} (hI : Inv I) (hw : Wf I) (hb0 : Bl I) (k : ∀ (v : Option Value) (I1 : Nat → Nat → Int32) (J1 : Nat → Nat → Int64), Fj I I1 → Q v (am_N I1 J1)) : am_wp X (d + 2) 77 0 [.ref 0, .int x0, .int x1, .int x2, .int x3, .int x4] [] (am_N I J) Q := by
  have rf : ∀ v : Option Value, Q v (am_N I J) := fun v => k v _ _ (Fj.rf hw hb0)
  refine c_77 hI ⟨fun _ => rf _, fun _ => ⟨fun _ => rf _, fun _ => ⟨fun _ => rf _, fun _ => ⟨fun _ => rf _, fun _ => ⟨fun hf => ?_, fun _ => rf _⟩⟩⟩⟩⟩
  have ix : am_ix (I 1 1) 8 := gR.ix' (n := 8) hI.1.1 (by decide) (by
    have q := hf
    rw [hI.landF, hI.1.2] at q
    exact q)
  have hl := am_ix_lt ix
  have en := am_ix_eq ix
  revert hl en
  generalize hN : Int32.toNatClampNeg (I 1 1) = N
  intro hl en
  refine ⟨hf, ix, k _ _ _ (Fj.bld (n := N) hI hw hl en (fun a j p q r => ?_) ?_ (hb0.fr (fun q hq => ?_)))⟩
  · rw [am_upv, if_neg (by omega), am_upv, if_neg (by omega), am_upv, if_neg (by omega), am_upv, if_neg (by omega), am_upv, if_neg (by omega), am_upv, if_neg (by omega)]
  · rw [am_upv, if_pos (by omega), en, oi_succ, oi_le (by omega) (by omega)]
    omega
  · rw [am_upv, if_neg (by omega), am_upv, if_neg (by omega), am_upv, if_neg (by omega), am_upv, if_neg (by omega), am_upv, if_neg (by omega), am_upv, if_neg (by omega)]
theorem f_78 {X : am_X} {d : Nat} {I : Nat → Nat → Int32} {J : Nat → Nat → Int64} {Q : Option Value → am_M → Prop} {x0 : Int32} {x1 : Int32} {x2 : Int32} (hI : Inv I) (hw : Wf I) (hb0 : Bl I) (k : ∀ (v : Option Value) (I1 : Nat → Nat → Int32) (J1 : Nat → Nat → Int64), Fj I I1 → Q v (am_N I1 J1)) : am_wp X (d + 3) 78 0 [.ref 0, .int x0, .int x1, .int x2, am_uv, am_uv] [] (am_N I J) Q := by
  have rf : ∀ v : Option Value, Q v (am_N I J) := fun v => k v _ _ (Fj.rf hw hb0)
  refine c_78 hI ⟨fun _ => rf _, fun hh => ⟨fun _ => rf _, fun _ => ⟨fun _ => rf _, fun _ => ⟨fun h6 => ?_, fun _ => rf _⟩⟩⟩⟩
  obtain ⟨hl, hb⟩ := hI.lt hh
  have g := hI.2.1 _ hl
  have g11 : gR (I (3 + 4 * Int32.toNatClampNeg x0) 11) 0 6 := by
    rw [g.2.1.2.2.2]
    exact g.2.2.1.2.2.2.2.2.2.2.2.2
  rw [Int32.add_zero] at h6
  obtain ⟨en, ln⟩ := g11.nat (by decide)
  revert en ln
  generalize hN : Int32.toNatClampNeg (I (3 + 4 * Int32.toNatClampNeg x0) 11) = N
  intro en ln
  have h6' := h6
  rw [en, show (6 : Int32) = Int32.ofInt 6 from rfl, oi_lt (by omega) (by omega)] at h6'
  have ix : am_ix (I (3 + 4 * Int32.toNatClampNeg x0) 11) 6 := by
    rw [en]
    exact oi_ix (by omega) (by omega) (by omega)
  refine ⟨h6, ix, k _ _ _ (Fj.pil (n := Int32.toNatClampNeg x0) (P := N) hI hw hl en (by omega) (fun a j p q r s => ?_) ?_ (hb0.fr (fun q hq => ?_)))⟩
  · unfold Ns at p
    rw [am_upv, if_neg (by omega), am_upv, if_neg (by omega), am_upv, if_neg (by omega), am_upv, if_neg (by omega)]
  · rw [am_upv, if_pos (by omega), en, oi_succ, oi_le (by omega) (by omega)]
    omega
  · rw [am_upv, if_neg (by omega), am_upv, if_neg (by omega), am_upv, if_neg (by omega), am_upv, if_neg (by omega)]
theorem rep_f {I : Nat → Nat → Int32} {N : Nat} {kd x p v : Int32} (hw : Wf I) (hb0 : Bl I) (hx : isq I x) (bn : I 35 2 = Int32.ofInt (N : Int)) (hn : N < 40) (hp : kd = 1 → ¬ v_hasPillar I (3 + 4 * Int32.toNatClampNeg x) p = 0) (ho : okV kd v ∧ (kd = 0 → gR v (-1) 7)) : Fj I (m_cw (am_up (am_up (am_up I 83 5 0) 87 1 0) 88 1 0) N kd x p v) := by
  have hl := hx.1
  have f0 : ∀ a k, ¬ (83 ≤ a ∧ a ≤ 88) → am_up (am_up (am_up I 83 5 0) 87 1 0) 88 1 0 a k = I a k := by
    intro a k q
    rw [am_upv, if_neg (by omega), am_upv, if_neg (by omega), am_upv, if_neg (by omega)]
  have c0 : clr (am_up (am_up (am_up I 83 5 0) 87 1 0) 88 1 0) := by
    refine ⟨?_, ?_, ?_⟩
    · rw [am_upv, if_neg (by omega), am_upv, if_neg (by omega), am_upv, if_pos (by omega)]
    · rw [am_upv, if_neg (by omega), am_upv, if_pos (by omega)]
    · rw [am_upv, if_pos (by omega)]
  have w0 := (Fj.cl hw (fun a k q => f0 a k (by omega)) c0 (hb0.fr (fun q hq => f0 _ _ (by omega)))).1.1
  revert f0 c0 w0
  generalize am_up (am_up (am_up I 83 5 0) 87 1 0) 88 1 0 = I0
  intro f0 c0 w0
  have hp0 : kd = 1 → ¬ v_hasPillar I0 (3 + 4 * Int32.toNatClampNeg x) p = 0 := fun q => hp_mono (le_of_eq32 (f0 _ _ (by omega))) (hp q)
  have w1 : Wf (m_cw I0 N kd x p v) := cw_wf w0 ⟨hl, hx.2.1, by rw [f0 1 1 (by omega)]; exact hx.2.2⟩ (by rw [f0 35 2 (by omega)]; exact bn) hn hp0 ho
  have f1 : ∀ a k, ¬ (a = 35 ∧ k = 2) → ¬ (43 ≤ a ∧ a ≤ 82) → m_cw I0 N kd x p v a k = I0 a k := by
    intro a k h1 h2
    unfold m_cw
    rw [am_upv, if_neg (by omega), am_upv, if_neg (by omega), am_upv, if_neg (by omega), am_upv, if_neg (by omega), am_upv, if_neg (by omega), am_upv, if_neg (by omega)]
  refine ⟨⟨w1, hb0.fr (fun q hq => (f1 _ _ (by omega) (by omega)).trans (f0 _ _ (by omega)))⟩, Or.inr ⟨?_, ?_, ?_⟩⟩
  · rw [f1 83 5 (by omega) (by omega)]
    exact c0.1
  · rw [f1 87 1 (by omega) (by omega)]
    exact c0.2.1
  · rw [f1 88 1 (by omega) (by omega)]
    exact c0.2.2
theorem f_89 {X : am_X} {d : Nat} {I : Nat → Nat → Int32} {J : Nat → Nat → Int64} {Q : Option Value → am_M → Prop} {x0 : Int32} {x1 : Int32} {x2 : Int32} {x3 : Int32} (hI : Inv I) (hw : Wf I) (hb0 : Bl I) (k : ∀ (v : Option Value) (I1 : Nat → Nat → Int32) (J1 : Nat → Nat → Int64), Fj I I1 → Q v (am_N I1 J1)) : am_wp X (d + 3) 89 0 [.ref 0, .int x0, .int x1, .int x2, .int x3, am_uv] [] (am_N I J) Q := by
  have rf : ∀ v : Option Value, Q v (am_N I J) := fun v => k v _ _ (Fj.rf hw hb0)
  obtain ⟨bn, bl⟩ := hI.2.2.2.2.2.1.1.nat (by decide)
  have hx : ¬ v_hasRoom I 1 = 0 → Int32.toNatClampNeg (I 35 2) < 40 := by
    intro q
    rw [hI.roomF, hI.2.2.2.2.2.1.2] at q
    rcases Nat.lt_or_ge (Int32.toNatClampNeg (I 35 2)) 40 with w | w
    · exact w
    · exact absurd (by rw [bn, show Int32.toNatClampNeg (I 35 2) = 40 by omega]; rfl) q
  refine c_89 hI ?_
  revert bn bl hx
  generalize hN : Int32.toNatClampNeg (I 35 2) = N
  intro bn bl hx
  have ix : N < 40 → am_ix (I 35 2) 40 := fun q => by rw [bn]; exact oi_ix (by omega) (by omega) (by omega)
  have rm : ∀ p, p = v_hasRoom I 1 → ¬ v_hasRoom I 1 = 0 → ¬ v_hasRoom (am_up (am_up (am_up I 83 5 0) 87 1 0) 88 1 0) 1 = 0 := fun _ _ h => h
  refine ⟨fun _ => rf _, fun hh => ⟨fun _ => rf _, fun hk => ⟨fun e1 => ⟨fun _ => rf _, fun hp => ⟨fun _ => rf _, fun ht => ⟨fun _ => rf _, fun hr => ⟨fun _ => ⟨rm _ rfl hr, ix (hx hr), ?_⟩, fun e => absurd e1 e⟩⟩⟩⟩, fun e1 => ⟨fun _ => rf _, fun ht => ⟨fun _ => rf _, fun hr => ⟨fun e => absurd e e1, fun _ => ⟨rm _ rfl hr, ix (hx hr), ?_⟩⟩⟩⟩⟩⟩⟩
  · have fj := rep_f hw hb0 (hI.isq hh) bn (hx hr) (fun _ => hp) (okV_of ht)
    unfold m_cw at fj
    rw [← bn] at fj
    exact k _ _ _ fj
  · have fj := rep_f (p := -9) hw hb0 (hI.isq hh) bn (hx hr) (fun q => absurd q e1) (okV_of ht)
    unfold m_cw at fj
    rw [← bn] at fj
    exact k _ _ _ fj
