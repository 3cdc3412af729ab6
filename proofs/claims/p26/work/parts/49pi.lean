/-! CART: the class's cells and the reference's guesses -/
theorem g_split {g : Nat} (hg : g < 13824) : ∃ c i : Nat, c < 576 ∧ i < 24 ∧ Int32.ofInt (g : Int) = gn c i := ⟨g / 24, g % 24, by omega, by omega, by unfold gn; rw [show 24 * (g / 24) + g % 24 = g by omega]⟩
theorem Inv.on {I : Nat → Nat → Int32} (h : Inv I) {r : Nat} (hr : r < bk I) : (I (43 + r) 4 = 0) = ¬ (I 132 r = 0) := by
  obtain ⟨l1, l2⟩ := h.lb hr
  have g := h.2.2.2.2.2.2.1 r l1
  rw [g.2.1 l2]
  rcases g.2.2.1 with e | e
  · rw [e]
    exact propext ⟨fun q => absurd q (by decide), fun q => absurd rfl q⟩
  · rw [e]
    exact propext ⟨fun _ => by decide, fun _ => by decide⟩
theorem n9 {x : Int32} (h : gR x 0 7) : ¬ x = -9 := by
  obtain ⟨z, z1, z2, rfl⟩ := h
  intro q
  have := (oi_eq (a := z) (b := -9) (by omega) (by omega)).mp (q.trans (by decide))
  omega
theorem aC_gA {I : Nat → Nat → Int32} (hI : Inv I) {x : Int32} (hx : gR x 0 7) {r : Nat} (hr : r < bk I) : aC I x 0 r = gA I x (-9) r := by
  obtain ⟨l1, l2⟩ := hI.lb hr
  have g := hI.2.2.2.2.2.2.1 r l1
  have n1 := n9 g.2.2.2.2.2.1
  unfold aC gA
  rw [g.1.2.1, if_neg (n9 hx)]
  by_cases h : I 132 r = 0
  · rw [if_neg (by rw [hI.on hr]; exact fun q => q h), if_pos h, if_neg n1]
    by_cases h2 : I 129 r = x
    · rw [if_pos h2, if_pos h2]
      rfl
    · rw [if_neg h2, if_neg h2]
      rfl
  · rw [if_pos (by rw [hI.on hr]; exact h), if_neg h]
theorem aQ_gQ {I : Nat → Nat → Int32} (hI : Inv I) {x : Int32} {r : Nat} (hr : r < bk I) : aQ I x r = gQ I x r := by
  obtain ⟨l1, l2⟩ := hI.lb hr
  have g := hI.2.2.2.2.2.2.1 r l1
  unfold aQ gQ
  rw [g.1.1, g.1.2.1, g.1.2.2.2]
  by_cases h : I 132 r = 0
  · rw [if_neg (by rw [hI.on hr]; exact fun q => q h), if_pos h]
  · rw [if_pos (by rw [hI.on hr]; exact h), if_neg h]
def g_ct (I : Nat → Nat → Int32) (x : Int32) (g : Int32) : Bool := g_fit I g (gA I x (-9)) && g_all I g (gQ I x)
theorem qz_ct {I : Nat → Nat → Int32} (hI : Inv I) (hw : Wf I) {x : Int32} (hx : gR x 0 7) {c : Nat} (hc : c < 576) : ¬ qz I x c = 0 ↔ ∃ i, i < 24 ∧ g_ct I x (gn c i) = true := by
  have m : M24 (qz I x c) := M24.q.andl
  rw [m.nz]
  have e : ∀ i, i < 24 → tb (qz I x c) i = g_ct I x (gn c i) := by
    intro i hi
    unfold qz g_ct
    rw [tb_and, (cell_fit hI hw (A' := gA I x (-9)) (fun r hr => aC_gA hI hx hr) hc hi).2.2.2, (cell_fit hI hw (A' := gQ I x) (fun r hr => aQ_gQ hI hr) hc hi).1]
  exact ⟨fun ⟨i, h1, h2⟩ => ⟨i, h1, by rw [← e i h1]; exact h2⟩, fun ⟨i, h1, h2⟩ => ⟨i, h1, by rw [e i h1]; exact h2⟩⟩
theorem gz.eQ {I I' : Nat → Nat → Int32} (h : gz I I') (x : Int32) (r : Nat) : gQ I' x r = gQ I x r := by
  unfold gQ
  rw [h 132 r (by omega) (by omega), h 128 r (by omega) (by omega), h 131 r (by omega) (by omega), h 129 r (by omega) (by omega)]
theorem w_213a {X : am_X} {d : Nat} {I : Nat → Nat → Int32} {J : Nat → Nat → Int64} {Q : Option Value → am_M → Prop} {x0 x1 : Int32} (hI : Inv I) (hw : Wf I) (k0 : (∃ g : Nat, g < 13824 ∧ g_ct I x1 (Int32.ofInt (g : Int)) = true) → ∀ I' : Nat → Nat → Int32, gz I I' → Inv I' → Q (some (.int 0)) (am_N I' J)) (k1 : (∀ g : Nat, g < 13824 → g_ct I x1 (Int32.ofInt (g : Int)) = false) → ∀ I' : Nat → Nat → Int32, gz I I' → Inv I' → Q (some (.int 1)) (am_N I' J)) : am_wp X (d + 4) 213 49 [.ref 105, .int x0, .int x1, .int 0] [] (am_N I J) Q := by
  refine am_down (N := 13824) (P := fun m => (∀ g : Nat, g < m → g_ct I x1 (Int32.ofInt (g : Int)) = false) → ∀ I' : Nat → Nat → Int32, gz I I' → Inv I' → am_wp X (d + 4) 213 49 [.ref 105, .int x0, .int x1, .int (Int32.ofInt (m : Int))] [] (am_N I' J) Q) ?_ ?_ 0 (by omega) (fun g hg => absurd hg (by omega)) I gz.rf hI
  · intro hz I' hs hi
    exact c_213_49 ⟨fun _ => k1 hz I' hs hi, fun q => absurd (by decide) q⟩
  · intro m hm ih hz I' hs hi
    refine c_213_49 ⟨fun q => absurd q (by rw [show (13824 : Int32) = Int32.ofInt 13824 from rfl, oi_le (by omega) (by omega)]; omega), fun _ => ⟨⟨hi, hs.wf hw, ⟨m, by omega, by omega, rfl⟩⟩, fun I1 h1 _ => ?_⟩⟩
    have i1 := h1.inv hi ⟨m, by omega, by omega, rfl⟩
    have s1 := hs.tr h1.1
    have e1 : g_fit I' (Int32.ofInt (m : Int)) (gA I' x1 (-9)) = g_fit I (Int32.ofInt (m : Int)) (gA I x1 (-9)) := (hs.ft _ (fun r => hs.eA x1 (-9) r)).2.2.2
    have e2 : ga (rr_is I1) (gQ I1 x1) (bk I1) = g_all I (Int32.ofInt (m : Int)) (gQ I x1) := by
      rw [s1.book]
      refine ga_cg _ (fun r _ => s1.eQ x1 r) (fun r hr _ => ?_)
      rw [← hs.book] at hr
      rw [(h1.rs (hi.rhk (hs.wf hw) hr)).1]
      exact (hs.so _ r).1
    have no : g_ct I x1 (Int32.ofInt (m : Int)) = false → am_wp X (d + 4) 213 49 [.ref 105, .int x0, .int x1, .int (Int32.ofInt (m : Int) + 1)] [] (am_N I1 J) Q := by
      intro q
      rw [oi_succ]
      refine ih (fun g hg => ?_) I1 s1 i1
      by_cases eg : g = m
      · rw [eg]
        exact q
      · exact hz g (by omega)
    rw [e1, e2, bz_0, bz_0]
    refine ⟨fun q => no ?_, fun q => ⟨i1, fun p => no ?_, fun p => k0 ⟨m, hm, ?_⟩ I1 s1 i1⟩⟩
    · unfold g_ct
      rw [q]
      rfl
    · unfold g_ct
      rw [p]
      exact Bool.and_false _
    · unfold g_ct
      rw [Bool.not_eq_false] at q p
      rw [q, p]
      rfl
/-- both answer alike -/
theorem ct_iff {I : Nat → Nat → Int32} (hI : Inv I) (hw : Wf I) {x : Int32} (hx : gR x 0 7) : (∃ c : Nat, c < 576 ∧ ¬ qz I x c = 0) ↔ ∃ g : Nat, g < 13824 ∧ g_ct I x (Int32.ofInt (g : Int)) = true := by
  refine ⟨fun ⟨c, h1, h2⟩ => ?_, fun ⟨g, h1, h2⟩ => ?_⟩
  · obtain ⟨i, i1, i2⟩ := (qz_ct hI hw hx h1).mp h2
    exact ⟨24 * c + i, by omega, i2⟩
  · obtain ⟨c, i, c1, i1, e⟩ := g_split h1
    rw [e] at h2
    exact ⟨c, c1, (qz_ct hI hw hx c1).mpr ⟨i, i1, h2⟩⟩
theorem am_ag.ct {I I' : Nat → Nat → Int32} (h : am_ag I I') (hs : wx I I') (x : Int32) (g : Int32) : g_ct I' x g = g_ct I x g := by
  have e1 : ∀ r, g_so I' g r = g_so I g r ∧ g_fr I' g r = g_fr I g r ∧ g_tl I' g r = g_tl I g r := by
    intro r
    unfold g_so g_fr g_tl g_far g_way rr_h rr_p
    rw [h 107 (by decide), h 108 (by decide), h 109 (by decide), h 110 (by decide), h 111 (by decide), h 112 (by decide), h 115 (by decide), h 116 (by decide), h 128 (by decide), h 129 (by decide), h 130 (by decide), h 131 (by decide)]
    exact ⟨rfl, rfl, rfl⟩
  have e2 : ∀ r, gA I' x (-9) r = gA I x (-9) r := by
    intro r
    unfold gA
    rw [h 129 (by decide), h 132 (by decide)]
  have e3 : ∀ r, gQ I' x r = gQ I x r := by
    intro r
    unfold gQ
    rw [h 128 (by decide), h 129 (by decide), h 131 (by decide), h 132 (by decide)]
  have e4 : ∀ A A' : Nat → Bool, (∀ r, A' r = A r) → ∀ r, gK I' A' r = gK I A r := by
    intro A A' ha r
    unfold gK
    rw [h 128 (by decide), ha]
  unfold g_ct g_fit g_all g_E g_L
  rw [hs.book, ga_cg _ (fun r _ => e2 r) (fun r _ _ => (e1 r).1), ga_cg _ (fun r _ => e3 r) (fun r _ _ => (e1 r).1), gE_cg _ (fun r _ => e4 _ _ e2 r) (fun r _ _ => (e1 r).2.1), gL_cg _ (fun r _ => e4 _ _ e2 r) (fun r _ _ => (e1 r).2.2)]
