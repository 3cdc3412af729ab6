/-- the second relation of this row -/
abbrev Kq (I : Nat → Nat → Int32) : Prop := Wf I ∧ Bl I
theorem Kq.kl : KL Kq := fun _ _ _ h k => ⟨k.1.lo h, k.2.lo h⟩
theorem Kq.st {I : Nat → Nat → Int32} (h : Kst I) : Kq I := ⟨Wf.emp h.1, fun q hq => Or.inl (h.2.1 q hq)⟩
theorem e_101 {X : am_X} {d : Nat} {I : Nat → Nat → Int32} {J : Nat → Nat → Int64} {Q : Option Value → am_M → Prop} {x0 : Int32} (hI : Inv I) (hw : Wf I) (k : ∀ (r : Int32) (I1 : Nat → Nat → Int32) (J1 : Nat → Nat → Int64), Md 213 4 [.ref 105, .int x0, am_uv, am_uv] (fun v => v = .int r) I1 → Q (some (.int r)) (am_N I1 J1)) : am_wp X (d + 6) 101 0 [.ref 0, .int x0, am_uv] [] (am_N I J) Q := by
  have rf : ∀ r : Int32, (∀ (X : am_X) (d : Nat) (J : Nat → Nat → Int64) (Q : Option Value → am_M → Prop), Q (some (.int r)) (am_N I J) → am_wp X (d + 4) 213 0 [.ref 105, .int x0, am_uv, am_uv] [] (am_N I J) Q) → Q (some (.int r)) (am_N I J) := fun r h => k r I J (fun X d J Q k' => h X d J Q (k' _ _ _ rfl hI))
  refine c_101 hI ⟨fun h => rf _ (fun X d J Q k' => c_213 ⟨fun _ => k', fun h' => absurd h h'⟩), fun hh => ?_⟩
  have hx := hI.ixRep hh
  obtain ⟨hl, hb⟩ := hI.ltR hh
  have hr := lb_of hI hl hb
  have g := hI.2.2.2.2.2.2.1 _ hl
  have on := hI.on hr
  have wr := hw _ hl hb
  have e0 := g.1.1
  have e1 := g.1.2.1
  have e3 := g.1.2.2.2
  have x7 : gR (I 129 (Int32.toNatClampNeg x0)) 0 7 := g.2.2.2.2.2.1
  rw [e0, e1, e3]
  refine ⟨fun ho => rf _ (fun X d J Q k' => c_213 ⟨fun h' => absurd h' hh, fun _ => ⟨hx, fun q => absurd q (by rw [on] at ho; exact ho), fun _ => k'⟩⟩), fun ho => ?_⟩
  have ho' : I 132 (Int32.toNatClampNeg x0) = 0 := Classical.byContradiction fun q => ho (by rw [on]; exact q)
  refine ⟨fun hk => ?_, fun hk => rf _ (fun X d J Q k' => c_213 ⟨fun h' => absurd h' hh, fun _ => ⟨hx, fun _ => ⟨hx, fun q => absurd q hk, fun _ => k'⟩, fun q => absurd ho' q⟩⟩)⟩
  have v7 := wr.2.2 (by rw [e0]; exact hk)
  rw [e3] at v7
  obtain ⟨V, V1, V2, eV⟩ := v7
  have hv : (I 131 (Int32.toNatClampNeg x0) = -1) = ¬ (0 ≤ I 131 (Int32.toNatClampNeg x0)) := by
    rw [eV, show (-1 : Int32) = Int32.ofInt (-1) by decide, show (0 : Int32) = Int32.ofInt 0 from rfl, oi_eq (by omega) (by omega), oi_le (by omega) (by omega)]
    exact propext (by omega)
  refine ⟨fun hm => rf _ (fun X d J Q k' => c_213 ⟨fun h' => absurd h' hh, fun _ => ⟨hx, fun _ => ⟨hx, fun _ => ⟨hx, fun q => absurd q (by rw [hv] at hm; exact hm), fun _ => k'⟩, fun q => absurd hk q⟩, fun q => absurd ho' q⟩⟩), fun hm => ?_⟩
  have hm' : 0 ≤ I 131 (Int32.toNatClampNeg x0) := Classical.byContradiction fun q => hm (by rw [hv]; exact q)
  have go : ∀ (I1 : Nat → Nat → Int32) (r : Int32), wx I I1 → ((∃ g : Nat, g < 13824 ∧ g_ct I (I 129 (Int32.toNatClampNeg x0)) (Int32.ofInt (g : Int)) = true) → r = 0) → ((∀ g : Nat, g < 13824 → g_ct I (I 129 (Int32.toNatClampNeg x0)) (Int32.ofInt (g : Int)) = false) → r = 1) → Q (some (.int r)) (am_N I1 J) := by
    intro I1 r hs r0 r1
    have i1 := hI.sm hs.sm
    have w1 := hs.wf hw
    have hag : am_ag I I1 := fun a ha => funext fun j => hs a j (by omega) (by omega)
    have eg : ∀ g : Int32, g_ct I1 (I 129 (Int32.toNatClampNeg x0)) g = g_ct I (I 129 (Int32.toNatClampNeg x0)) g := hag.ct hs _
    refine k r I1 J (fun X d J Q k' => c_213 ⟨fun h' => absurd h' (by rw [isReport_ag hag]; exact hh), fun _ => ⟨hx, ?_⟩⟩)
    rw [hag 132 (by decide), hag 128 (by decide), hag 131 (by decide), hag 129 (by decide)]
    refine ⟨fun _ => ⟨hx, fun _ => ⟨hx, fun _ => ⟨hx, ?_⟩, fun q => absurd hm' q⟩, fun q => absurd hk q⟩, fun q => absurd ho' q⟩
    refine w_213a i1 w1 (fun ⟨q, q1, q2⟩ I2 _ i2 => k' _ _ _ ?_ i2) (fun q I2 _ i2 => k' _ _ _ ?_ i2)
    · rw [eg] at q2
      rw [r0 ⟨q, q1, q2⟩]
    · rw [r1 (fun p hp => by rw [← eg]; exact q p hp)]
  refine ⟨⟨hI, hw⟩, fun hc I1 hs => go I1 _ hs (fun _ => rfl) (fun q => ?_), fun hc I1 hs => go I1 _ hs (fun q => ?_) (fun _ => rfl)⟩
  · obtain ⟨p, p1, p2⟩ := (ct_iff hI hw x7).mp hc
    rw [q p p1] at p2
    cases p2
  · obtain ⟨c, c1, c2⟩ := (ct_iff hI hw x7).mpr q
    exact absurd (hc c c1) c2
