theorem okV_of {k v : Int32} (h : ¬ v_isToldRight k v = 0) : okV k v ∧ (k = 0 → gR v (-1) 7) := by
  unfold v_isToldRight at h
  refine ⟨⟨fun q => ?_, fun q0 q1 q2 => ?_⟩, fun q => ?_⟩
  · rw [if_neg (by rw [q]; decide), if_pos q] at h
    obtain ⟨z, z1, z2, e⟩ := within_gR (lo := -2) (hi := 8) h (by decide) (by decide) (by decide) (by decide)
    intro n
    rw [e] at n
    have := (oi_eq (a := z) (b := -9) (by omega) (by omega)).mp (n.trans (by decide))
    omega
  · rw [if_neg q0, if_neg q1, if_neg q2] at h
    obtain ⟨z, z1, z2, e⟩ := within_gR (v := v) (lo := 1) (hi := 240) h (by decide) (by decide) (by decide) (by decide)
    exact ⟨z, z1, z2, e⟩
  · rw [if_pos q] at h
    exact within_gR (lo := -1) (hi := 7) h (by decide) (by decide) (by decide) (by decide)
def isq (A : Nat → Nat → Int32) (x : Int32) : Prop := Int32.toNatClampNeg x < 8 ∧ x = Int32.ofInt (Int32.toNatClampNeg x : Int) ∧ Int32.ofInt (Int32.toNatClampNeg x : Int) < A 1 1
theorem Inv.isq {I : Nat → Nat → Int32} (hI : Inv I) {x : Int32} (hx : ¬ v_isHouse I x = 0) : isq I x := ⟨(hI.lt hx).1, am_ix_eq (hI.ixHs hx), (hI.lt hx).2⟩
theorem wr_of {I I1 : Nat → Nat → Int32} {n : Nat} {kd x p v : Int32} (hx : isq I x) (hp : kd = 1 → ¬ v_hasPillar I (3 + 4 * Int32.toNatClampNeg x) p = 0) (ho : okV kd v ∧ (kd = 0 → gR v (-1) 7)) (e0 : I1 (43 + n) 0 = kd) (e1 : I1 (43 + n) 1 = x) (e2 : I1 (43 + n) 2 = p) (e3 : I1 (43 + n) 3 = v) (f1 : I1 1 1 = I 1 1) (f2 : I1 (3 + 4 * Int32.toNatClampNeg x) 11 = I (3 + 4 * Int32.toNatClampNeg x) 11) : Wr I1 n := by
  obtain ⟨hl, ex, hb⟩ := hx
  unfold Wr
  rw [e0, e1, e2, e3, f1]
  refine ⟨⟨Int32.toNatClampNeg x, hl, ex, hb, fun q => ?_⟩, ho⟩
  have := hp q
  unfold v_hasPillar at this ⊢
  rw [f2]
  exact this
theorem c_ad_lo {A : Nat → Nat → Int32} {a b z P : Nat} : ∀ m c k, ¬ (c = a ∧ k = 11) → ¬ (c = a + 1 ∧ P ≤ k) → ¬ (c = a + 2 ∧ P ≤ k) → ¬ c = a + 3 → c_ad A a b z P m c k = A c k := by
  intro m
  induction m with
  | zero => intro c k _ _ _ _; rfl
  | succ m ih =>
    intro c k h1 h2 h3 h4
    rw [c_ad_s]
    unfold m_ca
    rw [am_upv, if_neg (by omega), am_upv, if_neg (by omega), am_upv, if_neg (by omega), am_upv, if_neg (by omega)]
    exact ih c k h1 h2 h3 h4
theorem s_all_lo {A : Nat → Nat → Int32} {x y z s kd t : Int32} {c k : Nat} : ∀ h, h ≤ 8 → ¬ (3 ≤ c ∧ c ≤ 34 ∧ ((c % 4 = 3 ∧ 8 ≤ k ∧ k ≤ 10) ∨ c % 4 = 2)) → s_all A x y z s kd t h c k = A c k := by
  intro h
  induction h with
  | zero => intro _ _; rfl
  | succ h ih =>
    intro hh hc
    rw [s_all_s, s_hs_fr (by omega)]
    exact ih (by omega) hc
theorem s_hs_bl {A : Nat → Nat → Int32} {a : Nat} {f w t : Int32} (hw : gR w 0 8) (h : A a 8 = -9 ∨ gR (A a 8) 0 7) : s_hs A a f w t a 8 = -9 ∨ gR (s_hs A a f w t a 8) 0 7 := by
  unfold s_hs
  rw [s_ck_fr (by omega), s_pl_fr (by omega)]
  unfold s_bl
  split
  · rename_i q
    rw [am_upv, if_pos ⟨rfl, rfl⟩]
    obtain ⟨z, z1, z2, e⟩ := hw
    refine Or.inr ⟨z, z1, ?_, e⟩
    have : ¬ z = 8 := fun p => q.2.1 (by rw [e, p]; rfl)
    omega
  · exact h
theorem s_all_bl {A : Nat → Nat → Int32} {x y z s kd t : Int32} (hb : Bl A) : ∀ h, h ≤ 8 → Bl (s_all A x y z s kd t h) := by
  intro h
  induction h with
  | zero => intro _; exact hb
  | succ h ih =>
    intro hh q hq
    have i := ih (by omega)
    rw [s_all_s]
    by_cases e : q = h
    · subst e
      refine s_hs_bl ?_ (i _ hq)
      split
      · exact way_gR
      · exact ⟨8, by decide, by decide, rfl⟩
    · rw [s_hs_fr (by omega)]
      exact i _ hq
theorem f_79 {X : am_X} {d : Nat} {I : Nat → Nat → Int32} {J : Nat → Nat → Int64} {Q : Option Value → am_M → Prop} {x0 x1 x2 x3 x4 : Int32} (hI : Inv I) (hw : Wf I) (hb0 : Bl I) (k : ∀ (v : Option Value) (I1 : Nat → Nat → Int32) (J1 : Nat → Nat → Int64), Fj I I1 → Q v (am_N I1 J1)) : am_wp X (d + 4) 79 0 [.ref 0, .int x0, .int x1, .int x2, .int x3, .int x4, am_uv, am_uv, am_uv] [] (am_N I J) Q := by
  refine c_79 hI ?_
  have u : ∀ f, am_up I 0 8 0 (97 + 2 * (Int32.toNatClampNeg x1)) f = I (97 + 2 * (Int32.toNatClampNeg x1)) f := fun f => by rw [am_upv, if_neg (by omega)]
  have quiet : ∀ (v : Option Value) (I' : Nat → Nat → Int32), (∀ a k, ¬ a = 0 → I' a k = I a k) → Q v (am_N I' J) := fun v I' hs => k v I' J (Fj.fr hI hw (fun a j q => hs a j (fun p => q (by unfold Ns; omega)) ) (hb0.fr (fun q _ => hs _ _ (by omega))))
  have s0 : ∀ a k, ¬ a = 0 → am_up I 0 8 0 a k = I a k := fun a k q => by rw [am_upv, if_neg (by omega)]
  have q8 : ∀ (v : Int32), ∀ a k, ¬ a = 0 → am_up (am_up I 0 8 0) 0 8 v a k = I a k := fun v a k q => by rw [am_upv, if_neg (by omega), am_upv, if_neg (by omega)]
  rw [u 1, u 2, u 3]
  refine ⟨fun h => ⟨fun _ => quiet _ _ s0, fun _ => quiet _ _ s0⟩, fun hh => ⟨fun h => quiet _ _ s0, fun h1 => ⟨fun h => quiet _ _ s0, fun h2 => ?_⟩⟩⟩
  have hx1 := ixSh h1
  have hl1 := am_ix_lt hx1
  obtain ⟨hl, hb⟩ := hI.lt hh
  have g := hI.2.1 _ hl
  have b11 := g.2.1.2.2.2
  obtain ⟨en, ln⟩ := g.2.2.1.2.2.2.2.2.2.2.2.2.nat (by decide)
  have u11 : am_up I 0 8 0 (3 + 4 * (Int32.toNatClampNeg x0)) 11 = I 114 (Int32.toNatClampNeg x0) := by rw [am_upv, if_neg (by omega), b11]
  refine ⟨fun h0 => quiet _ _ (q8 _), fun h0 => ?_⟩
  have h9 : ¬ I 121 (Int32.toNatClampNeg x1) = -9 := fun q => hI.sh1 h1 h0 q
  obtain ⟨-, e2, -, e3, len, l1, l2, l3⟩ := hI.shl hl1 h9
  rw [← e2, ← e3]
  refine ⟨fun hL => ⟨fun hn => ?_, fun hn => quiet _ _ (q8 _)⟩, fun hL => quiet _ _ (q8 _)⟩
  obtain ⟨N, hN, n1, n2⟩ := oi_of x4
  have hn' : Int32.ofInt 0 ≤ x4 := hn
  rw [hN, oi_le (by omega) (by omega)] at hn'
  have cN : Int32.toNatClampNeg x4 = N.toNat := by rw [hN, oi_cl (by omega)]
  have eN : x4 = Int32.ofInt ((Int32.toNatClampNeg x4 : Nat) : Int) := by rw [cN, Int.toNat_of_nonneg hn']; exact hN
  have done : ∀ v : Option Value, (0 < Int32.toNatClampNeg x4 → Int32.toNatClampNeg (I 114 (Int32.toNatClampNeg x0)) + Int32.toNatClampNeg x4 ≤ 6) → Q v (am_N (m80 (am_up I 0 8 0) (3 + 4 * (Int32.toNatClampNeg x0)) (97 + 2 * (Int32.toNatClampNeg x1)) x3 x4) J) := by
    intro v h6
    refine k v _ J (Fj.pil (n := Int32.toNatClampNeg x0) (P := Int32.toNatClampNeg (I 114 (Int32.toNatClampNeg x0))) hI hw hl (b11.trans en) (by omega) (fun a j p q1 q2 q3 => ?_) ?_ (hb0.fr (fun q hq => ?_)))
    · unfold m80
      rw [u11]
      unfold Ns at p
      exact (c_ad_lo _ a j (by omega) (by omega) (by omega) (by omega)).trans (by rw [am_upv, if_neg (by omega)])
    · unfold m80
      rw [u11, c_ad_n (by rw [u11]; exact en), b11, en, oi_cln (by omega)]
      by_cases h0 : 0 < Int32.toNatClampNeg x4
      · have := h6 h0
        rw [oi_le (by omega) (by omega)]
        omega
      · rw [show Int32.toNatClampNeg x4 = 0 by omega]
        exact Int32.le_refl _
    · unfold m80
      rw [u11]
      exact (c_ad_lo _ _ _ (by omega) (by omega) (by omega) (by omega)).trans (by rw [am_upv, if_neg (by omega)])
  refine ⟨fun n0 => ?_, fun n0 => ?_⟩
  · have c0 : Int32.toNatClampNeg x4 = 0 := by rw [n0]; rfl
    refine ⟨⟨by rw [u11]; exact g.2.2.1.2.2.2.2.2.2.2.2.2, eN, fun q => absurd q (by omega)⟩, fun q => ?_, fun _ => done _ (fun q => by omega)⟩
    obtain ⟨j, hj, -⟩ := q
    omega
  · refine ⟨fun i0 => quiet _ _ (q8 _), fun i0 => ⟨fun lg => quiet _ _ (q8 _), fun lg => ?_⟩⟩
    obtain ⟨z, hz, z1, z2⟩ := oi_of x3
    have i0' : ¬ x3 < Int32.ofInt 0 := i0
    rw [hz, oi_lt (by omega) (by omega)] at i0'
    have cz : Int32.toNatClampNeg x3 = z.toNat := by rw [hz, oi_cl (by omega)]
    have ez : x3 = Int32.ofInt ((Int32.toNatClampNeg x3 : Nat) : Int) := by rw [cz, Int.toNat_of_nonneg (by omega)]; exact hz
    rw [lg_lt, Classical.not_not, Int64.le_iff_toInt_le, i64_add _ _ _ (by decide), Int32.toInt_toInt64, l3, hz, hN, oi_to (by omega), oi_to (by omega), oi_to (by omega), show (2 : Int32).toInt = 2 from rfl] at lg
    have hzz : Int32.toNatClampNeg x3 + 2 * Int32.toNatClampNeg x4 ≤ 40 := by omega
    refine ⟨⟨by rw [u11]; exact g.2.2.1.2.2.2.2.2.2.2.2.2, eN, fun _ => ⟨ez, hzz⟩⟩, fun q r1 => quiet _ _ s0, fun q => done _ (fun p0 => ?_)⟩
    have := Classical.byContradiction fun w => q ⟨Int32.toNatClampNeg x4 - 1, by omega, w⟩
    have := this.2.2
    rw [u11] at this
    omega
theorem f_88 {X : am_X} {d : Nat} {I : Nat → Nat → Int32} {J : Nat → Nat → Int64} {Q : Option Value → am_M → Prop} {x0 x1 x2 x3 x4 x5 : Int32} (hI : Inv I) (hw : Wf I) (hb0 : Bl I) (k : ∀ (v : Option Value) (I1 : Nat → Nat → Int32) (J1 : Nat → Nat → Int64), Fj I I1 → Q v (am_N I1 J1)) : am_wp X (d + 3) 88 0 [.ref 0, .int x0, .int x1, .int x2, .int x3, .int x4, .int x5, am_uv, am_uv, am_uv, am_uv] [] (am_N I J) Q := by
  refine c_88 hI ⟨fun h => k _ _ _ (Fj.rf hw hb0), fun hs => ⟨fun h => k _ _ _ (Fj.rf hw hb0), fun ht => ⟨fun hf => ?_, fun hf => k _ _ _ (Fj.rf hw hb0)⟩⟩⟩
  obtain ⟨sx, sy, sz, ss, sk⟩ := shake_sp hs
  obtain ⟨en, ln⟩ := hI.1.1.nat (by decide)
  obtain ⟨eN, lN⟩ := hI.2.2.2.1.1.nat (by decide)
  have h12 : Int32.toNatClampNeg (I 91 4) < 12 := by
    rw [hI.chainF] at hf
    have : ¬ I 91 4 = 12 := by
      intro q
      apply hf
      rw [hI.2.2.2.1.2]
      exact q
    rw [eN] at this
    rcases Nat.lt_or_ge (Int32.toNatClampNeg (I 91 4)) 12 with q | q
    · exact q
    · exact absurd (by rw [show Int32.toNatClampNeg (I 91 4) = 12 by omega]; rfl) this
  have bl := s_all_bl (x := x0) (y := x1) (z := x2) (s := x3) (kd := x4) (t := x5) hb0 (Int32.toNatClampNeg (I 1 1)) (by omega)
  refine wl_88 (n := Int32.toNatClampNeg (I 1 1)) hI sx sy sz sk en (by omega) eN h12 (k _ _ _ (Fj.fr hI hw (fun a j q => ?_) (bl.fr (fun q hq => ?_)))) 0 (by omega) _ _ _ rfl rfl rfl
  · unfold Ns at q
    unfold m_ce
    rw [am_upv, if_neg (by omega), am_upv, if_neg (by omega), am_upv, if_neg (by omega), am_upv, if_neg (by omega), am_upv, if_neg (by omega)]
    exact s_all_lo _ (by omega) (by omega)
  · unfold m_ce
    rw [am_upv, if_neg (by omega), am_upv, if_neg (by omega), am_upv, if_neg (by omega), am_upv, if_neg (by omega), am_upv, if_neg (by omega)]
theorem c_lk_wf {A : Nat → Nat → Int32} {x : Int32} {n P : Nat} (hw : Wf A) (hx : isq A x) (hP : A (3 + 4 * Int32.toNatClampNeg x) 11 = Int32.ofInt (P : Int)) (p6 : P ≤ 6) (hc : A 35 2 = Int32.ofInt (n : Int)) (hn : n + P ≤ 40) : ∀ m, m ≤ P → Wf (c_lk A (3 + 4 * Int32.toNatClampNeg x) x n m) := by
  intro m
  induction m with
  | zero => intro _; exact hw
  | succ m ih =>
    intro hm
    have i := ih (by omega)
    have en := c_lk_n (a := 3 + 4 * Int32.toNatClampNeg x) (x := x) hc m
    have hl := hx.1
    have fr : ∀ c k, ¬ (c = 35 ∧ k = 2) → ¬ (43 ≤ c ∧ c ≤ 82) → c_lk A (3 + 4 * Int32.toNatClampNeg x) x n m c k = A c k := c_lk_fr m (by omega)
    rw [c_lk_s]
    generalize hv : (if c_lk A (3 + 4 * Int32.toNatClampNeg x) x n m (3 + 4 * Int32.toNatClampNeg x + 3) m = -9 then (-2 : Int32) else c_lk A (3 + 4 * Int32.toNatClampNeg x) x n m (3 + 4 * Int32.toNatClampNeg x + 3) m) = v
    have nv : ¬ v = -9 := by
      rw [← hv]
      split
      · decide
      · assumption
    have e : ∀ a k, (43 ≤ a ∧ a ≤ 82 ∧ k < 4 ∧ a ≠ 43 + (n + m)) ∨ (a = 1 ∧ k = 1) ∨ (3 ≤ a ∧ a ≤ 34 ∧ k = 11) → m_cw (c_lk A (3 + 4 * Int32.toNatClampNeg x) x n m) (n + m) 1 x (Int32.ofInt (m : Int)) v a k = c_lk A (3 + 4 * Int32.toNatClampNeg x) x n m a k := by
      intro a k q
      unfold m_cw
      rw [am_upv, if_neg (by omega), am_upv, if_neg (by omega), am_upv, if_neg (by omega), am_upv, if_neg (by omega), am_upv, if_neg (by omega), am_upv, if_neg (by omega)]
    refine i.wrt en (by omega) e (by unfold m_cw; rw [am_upv, if_pos (by omega)]) ?_
    refine wr_of (I := A) (x := x) (kd := 1) (p := Int32.ofInt (m : Int)) (v := v) hx (fun _ => ?_) ⟨⟨fun _ => nv, fun q0 q1 => absurd rfl q1⟩, fun q => absurd q (by decide)⟩ ?_ ?_ ?_ ?_ ?_ ?_
    · unfold v_hasPillar
      rw [if_neg (oiz m (by omega)), hP, if_neg (fun q => by rw [oi_le (by omega) (by omega)] at q; omega)]
      decide
    · unfold m_cw
      rw [am_upv, if_neg (by omega), am_upv, if_neg (by omega), am_upv, if_neg (by omega), am_upv, if_neg (by omega), am_upv, if_neg (by omega), am_upv, if_pos (by omega)]
    · unfold m_cw
      rw [am_upv, if_neg (by omega), am_upv, if_neg (by omega), am_upv, if_neg (by omega), am_upv, if_neg (by omega), am_upv, if_pos (by omega)]
    · unfold m_cw
      rw [am_upv, if_neg (by omega), am_upv, if_neg (by omega), am_upv, if_neg (by omega), am_upv, if_pos (by omega)]
    · unfold m_cw
      rw [am_upv, if_neg (by omega), am_upv, if_neg (by omega), am_upv, if_pos (by omega)]
    · rw [e 1 1 (by omega)]
      exact fr _ _ (by omega) (by omega)
    · rw [e _ 11 (by omega)]
      exact fr _ _ (by omega) (by omega)
theorem cw_wf {A : Nat → Nat → Int32} {x kd p v : Int32} {n : Nat} (hw : Wf A) (hx : isq A x) (hc : A 35 2 = Int32.ofInt (n : Int)) (hn : n < 40) (hp : kd = 1 → ¬ v_hasPillar A (3 + 4 * Int32.toNatClampNeg x) p = 0) (ho : okV kd v ∧ (kd = 0 → gR v (-1) 7)) : Wf (m_cw A n kd x p v) := by
  have hl := hx.1
  have e : ∀ a k, (43 ≤ a ∧ a ≤ 82 ∧ k < 4 ∧ a ≠ 43 + n) ∨ (a = 1 ∧ k = 1) ∨ (3 ≤ a ∧ a ≤ 34 ∧ k = 11) → m_cw A n kd x p v a k = A a k := by
    intro a k q
    unfold m_cw
    rw [am_upv, if_neg (by omega), am_upv, if_neg (by omega), am_upv, if_neg (by omega), am_upv, if_neg (by omega), am_upv, if_neg (by omega), am_upv, if_neg (by omega)]
  refine hw.wrt hc hn e (by unfold m_cw; rw [am_upv, if_pos (by omega)]) ?_
  refine wr_of (I := A) (x := x) (kd := kd) (p := p) (v := v) hx hp ho ?_ ?_ ?_ ?_ (e 1 1 (by omega)) (e _ 11 (by omega))
  · unfold m_cw
    rw [am_upv, if_neg (by omega), am_upv, if_neg (by omega), am_upv, if_neg (by omega), am_upv, if_neg (by omega), am_upv, if_neg (by omega), am_upv, if_pos (by omega)]
  · unfold m_cw
    rw [am_upv, if_neg (by omega), am_upv, if_neg (by omega), am_upv, if_neg (by omega), am_upv, if_neg (by omega), am_upv, if_pos (by omega)]
  · unfold m_cw
    rw [am_upv, if_neg (by omega), am_upv, if_neg (by omega), am_upv, if_neg (by omega), am_upv, if_pos (by omega)]
  · unfold m_cw
    rw [am_upv, if_neg (by omega), am_upv, if_neg (by omega), am_upv, if_pos (by omega)]
theorem look_f {X : am_X} {d : Nat} {I : Nat → Nat → Int32} {J : Nat → Nat → Int64} {Q : Option Value → am_M → Prop} {x0 s v : Int32} {N P : Nat} (hw : Wf I) (hb0 : Bl I) (hx : isq I x0) (bn : I 35 2 = Int32.ofInt (N : Int)) (e11 : I (3 + 4 * Int32.toNatClampNeg x0) 11 = Int32.ofInt (P : Int)) (hp : P ≤ 6) (r0 : N + 1 + P ≤ 40) (r1 : ¬ I (3 + 4 * Int32.toNatClampNeg x0) 9 = 0 → N + 1 + P < 40) (hv : gR v (-1) 7) (k : ∀ (w : Option Value) (I1 : Nat → Nat → Int32) (J1 : Nat → Nat → Int64), Fj I I1 → Q w (am_N I1 J1)) : am_wp X (d + 2) 90 85 [.ref 0, .int x0, .ref (3 + 4 * (Int32.toNatClampNeg x0)), .int s, .int 0] [] (am_N (m_cw (am_up (am_up (am_up I 83 5 0) 87 1 0) 88 1 0) N 0 x0 (-9) v) J) Q := by
  have hl := hx.1
  have f0 : ∀ a k, ¬ (83 ≤ a ∧ a ≤ 88) → am_up (am_up (am_up I 83 5 0) 87 1 0) 88 1 0 a k = I a k := by
    intro a k q
    rw [am_upv, if_neg (by omega), am_upv, if_neg (by omega), am_upv, if_neg (by omega)]
  have c0 : clr (am_up (am_up (am_up I 83 5 0) 87 1 0) 88 1 0) := by
    refine ⟨?_, ?_, ?_⟩
    · rw [am_upv, if_neg (by omega), am_upv, if_neg (by omega), am_upv, if_pos (by omega)]
    · rw [am_upv, if_neg (by omega), am_upv, if_pos (by omega)]
    · rw [am_upv, if_pos (by omega)]
  have w0 := (Fj.cl hw (fun a k q => f0 a k (by omega)) c0 (hb0.fr (fun q hq => f0 _ _ (by omega)))).1.1
  revert f0 c0 w0
  generalize am_up (am_up (am_up I 83 5 0) 87 1 0) 88 1 0 = I0
  intro f0 c0 w0
  have x0' : isq I0 x0 := ⟨hl, hx.2.1, by rw [f0 1 1 (by omega)]; exact hx.2.2⟩
  have bn0 : I0 35 2 = Int32.ofInt (N : Int) := by rw [f0 35 2 (by omega)]; exact bn
  have w1 : Wf (m_cw I0 N 0 x0 (-9) v) := cw_wf w0 x0' bn0 (by omega) (fun q => absurd q (by decide)) ⟨⟨fun q => absurd q (by decide), fun q0 => absurd rfl q0⟩, fun _ => hv⟩
  have f1 : ∀ a k, ¬ (a = 35 ∧ k = 2) → ¬ (43 ≤ a ∧ a ≤ 82) → m_cw I0 N 0 x0 (-9) v a k = I0 a k := by
    intro a k h1 h2
    unfold m_cw
    rw [am_upv, if_neg (by omega), am_upv, if_neg (by omega), am_upv, if_neg (by omega), am_upv, if_neg (by omega), am_upv, if_neg (by omega), am_upv, if_neg (by omega)]
  have bn1 : m_cw I0 N 0 x0 (-9) v 35 2 = Int32.ofInt ((N + 1 : Nat) : Int) := by
    unfold m_cw
    rw [am_upv, if_pos (by omega), oi_succ]
  revert w1 f1 bn1
  generalize m_cw I0 N 0 x0 (-9) v = I1
  intro w1 f1 bn1
  have g1 : ∀ a k, ¬ (a = 35 ∧ k = 2) → ¬ (43 ≤ a ∧ a ≤ 82) → ¬ (83 ≤ a ∧ a ≤ 88) → I1 a k = I a k := fun a k p q r => (f1 a k p q).trans (f0 a k r)
  have x1' : isq I1 x0 := ⟨hl, hx.2.1, by rw [g1 1 1 (by omega) (by omega) (by omega)]; exact hx.2.2⟩
  have e1 : I1 (3 + 4 * Int32.toNatClampNeg x0) 11 = Int32.ofInt (P : Int) := by rw [g1 _ 11 (by omega) (by omega) (by omega)]; exact e11
  have e9 : I1 (3 + 4 * Int32.toNatClampNeg x0) 9 = I (3 + 4 * Int32.toNatClampNeg x0) 9 := g1 _ 9 (by omega) (by omega) (by omega)
  have w2 := c_lk_wf w1 x1' e1 hp bn1 (by omega) P (Nat.le_refl _)
  have f2 : ∀ a k, ¬ (a = 35 ∧ k = 2) → ¬ (43 ≤ a ∧ a ≤ 82) → c_lk I1 (3 + 4 * Int32.toNatClampNeg x0) x0 (N + 1) P a k = I1 a k := c_lk_fr P (by omega)
  have n2 := c_lk_n (a := 3 + 4 * Int32.toNatClampNeg x0) (x := x0) bn1 P
  have c2 : ∀ I2 : Nat → Nat → Int32, (∀ a k, ¬ (a = 35 ∧ k = 2) → ¬ (43 ≤ a ∧ a ≤ 82) → I2 a k = I1 a k) → clr I2 ∧ Bl I2 := by
    intro I2 h2
    refine ⟨⟨?_, ?_, ?_⟩, hb0.fr (fun q hq => ?_)⟩
    · rw [h2 83 5 (by omega) (by omega), f1 83 5 (by omega) (by omega)]
      exact c0.1
    · rw [h2 87 1 (by omega) (by omega), f1 87 1 (by omega) (by omega)]
      exact c0.2.1
    · rw [h2 88 1 (by omega) (by omega), f1 88 1 (by omega) (by omega)]
      exact c0.2.2
    · rw [h2 _ 8 (by omega) (by omega), g1 _ 8 (by omega) (by omega) (by omega)]
  refine wl_90 ⟨_, hl, rfl⟩ bn1 e1 hp (by omega) (by rw [e9]; exact r1) (fun _ => k _ _ _ ⟨⟨w2, (c2 _ f2).2⟩, Or.inr (c2 _ f2).1⟩) (fun q9 => ?_) 0 (by omega)
  rw [e9] at q9
  have := r1 q9
  have w3 : Wf (m_cw (c_lk I1 (3 + 4 * Int32.toNatClampNeg x0) x0 (N + 1) P) (N + 1 + P) 2 x0 (-9) (I1 (3 + 4 * Int32.toNatClampNeg x0) 10)) := cw_wf w2 ⟨hl, hx.2.1, by rw [f2 1 1 (by omega) (by omega)]; exact x1'.2.2⟩ n2 (by omega) (fun q => absurd q (by decide)) ⟨⟨fun q => absurd q (by decide), fun q0 q1 q2 => absurd rfl q2⟩, fun q => absurd q (by decide)⟩
  have f3 : ∀ a k, ¬ (a = 35 ∧ k = 2) → ¬ (43 ≤ a ∧ a ≤ 82) → m_cw (c_lk I1 (3 + 4 * Int32.toNatClampNeg x0) x0 (N + 1) P) (N + 1 + P) 2 x0 (-9) (I1 (3 + 4 * Int32.toNatClampNeg x0) 10) a k = I1 a k := by
    intro a k h1 h2
    unfold m_cw
    rw [am_upv, if_neg (by omega), am_upv, if_neg (by omega), am_upv, if_neg (by omega), am_upv, if_neg (by omega), am_upv, if_neg (by omega), am_upv, if_neg (by omega)]
    exact f2 a k h1 h2
  exact k _ _ _ ⟨⟨w3, (c2 _ f3).2⟩, Or.inr (c2 _ f3).1⟩
theorem f_90 {X : am_X} {d : Nat} {I : Nat → Nat → Int32} {J : Nat → Nat → Int64} {Q : Option Value → am_M → Prop} {x0 : Int32} (hI : Inv I) (hw : Wf I) (hb0 : Bl I) (k : ∀ (v : Option Value) (I1 : Nat → Nat → Int32) (J1 : Nat → Nat → Int64), Fj I I1 → Q v (am_N I1 J1)) : am_wp X (d + 2) 90 0 [.ref 0, .int x0, am_uv, am_uv, am_uv] [] (am_N I J) Q := by
  refine c_90 hI ⟨fun h => k _ _ _ (Fj.rf hw hb0), fun hh => ?_⟩
  have hq := hI.isq hh
  obtain ⟨hl, hb⟩ := hI.lt hh
  have g := hI.2.1 _ hl
  have e9 := g.2.1.2.1
  have e11 := g.2.1.2.2.2
  obtain ⟨pn, pl⟩ := g.2.2.1.2.2.2.2.2.2.2.2.2.nat (by decide)
  obtain ⟨bn, bl⟩ := hI.2.2.2.2.2.1.1.nat (by decide)
  have u8 : (am_up (am_up (am_up I 83 5 0) 87 1 0) 88 1 0) (3 + 4 * (Int32.toNatClampNeg x0)) 8 = I (3 + 4 * (Int32.toNatClampNeg x0)) 8 := by
    rw [am_upv, if_neg (by omega), am_upv, if_neg (by omega), am_upv, if_neg (by omega)]
  have rm : v_hasRoom (am_up (am_up (am_up I 83 5 0) 87 1 0) 88 1 0) 1 = v_hasRoom I 1 := rfl
  have b8 := hb0 _ hl
  rw [u8, rm, e11]
  revert pn bn pl bl
  generalize hP : Int32.toNatClampNeg (I 114 (Int32.toNatClampNeg x0)) = P
  generalize Int32.toNatClampNeg (I 35 2) = N
  intro pn pl bn bl
  have pn' : I (3 + 4 * Int32.toNatClampNeg x0) 11 = Int32.ofInt (P : Int) := e11.trans pn
  rw [pn, roomS (P := P) (t := 0) (T := 0) bn (by omega) (by omega) (by decide) rfl, roomS (P := P) (t := 1) (T := 1) bn (by omega) (by omega) (by decide) rfl]
  have rr := roomN bn
  have hN : N < 40 → am_ix (I 35 2) 40 := fun q => by rw [bn]; exact oi_ix (by omega) (by omega) (by omega)
  refine ⟨fun h9 => ⟨fun f => k _ _ _ (Fj.rf hw hb0), fun f => ?_⟩, fun h9 => ⟨fun f => k _ _ _ (Fj.rf hw hb0), fun f => ?_⟩⟩
  · have f' : N + 1 + P + 0 ≤ 40 := Classical.byContradiction f
    refine ⟨fun h8 => ⟨rr (by omega), hN (by omega), ?_⟩, fun h8 => ⟨rr (by omega), hN (by omega), ?_⟩⟩
    · rw [bn]
      exact look_f (P := P) hw hb0 hq bn pn' (by omega) (by omega) (fun q => absurd h9 q) ⟨-1, by decide, by decide, rfl⟩ k
    · rw [bn]
      exact look_f (P := P) hw hb0 hq bn pn' (by omega) (by omega) (fun q => absurd h9 q) ((b8.resolve_left h8).mono (by decide) (by decide)) k
  · have f' : N + 1 + P + 1 ≤ 40 := Classical.byContradiction f
    refine ⟨fun h8 => ⟨rr (by omega), hN (by omega), ?_⟩, fun h8 => ⟨rr (by omega), hN (by omega), ?_⟩⟩
    · rw [bn]
      exact look_f (P := P) hw hb0 hq bn pn' (by omega) (by omega) (fun q => by omega) ⟨-1, by decide, by decide, rfl⟩ k
    · rw [bn]
      exact look_f (P := P) hw hb0 hq bn pn' (by omega) (by omega) (fun q => by omega) ((b8.resolve_left h8).mono (by decide) (by decide)) k
