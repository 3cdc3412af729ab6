/-! WHAT A CALL LEAVES of what the book's inference sees -/
/-- cells that no inference sees -/
def Ns (a k : Nat) : Prop := a = 0 ∨ (3 ≤ a ∧ a ≤ 34 ∧ ((a % 4 = 3 ∧ (k = 0 ∨ (7 ≤ k ∧ k ≤ 10))) ∨ a % 4 = 2)) ∨ (a = 35 ∧ 9 ≤ k) ∨ (37 ≤ a ∧ a ≤ 42) ∨ 89 ≤ a
def q_p (I : Nat → Nat → Int32) (r : Nat) : Nat := Int32.toNatClampNeg (I (43 + r) 2)
/-- what is inferred, and what it is inferred from, is as it was -/
def cs (I I1 : Nat → Nat → Int32) : Prop := (∀ a k, 83 ≤ a → a ≤ 88 → I1 a k = I a k) ∧ (I1 35 2 = I 35 2 ∧ ∀ r k, r < 40 → I1 (43 + r) k = I (43 + r) k) ∧ I 1 1 ≤ I1 1 1 ∧ ∀ r, r < bk I → (∀ k, 1 ≤ k → k ≤ 6 → I1 (3 + 4 * q_h I r) k = I (3 + 4 * q_h I r) k) ∧ I (3 + 4 * q_h I r) 11 ≤ I1 (3 + 4 * q_h I r) 11 ∧ (I (43 + r) 0 = 1 → I1 (3 + 4 * q_h I r + 1) (q_p I r) = I (3 + 4 * q_h I r + 1) (q_p I r) ∧ I1 (3 + 4 * q_h I r + 2) (q_p I r) = I (3 + 4 * q_h I r + 2) (q_p I r))
/-- nothing is held for known -/
def clr (I1 : Nat → Nat → Int32) : Prop := I1 83 5 = 0 ∧ I1 87 1 = 0 ∧ I1 88 1 = 0
/-- a ball is of a WAY -/
def Bl (I : Nat → Nat → Int32) : Prop := ∀ h, h < 8 → I (3 + 4 * h) 8 = -9 ∨ gR (I (3 + 4 * h) 8) 0 7
theorem Bl.fr {I I1 : Nat → Nat → Int32} (hb : Bl I) (h : ∀ q, q < 8 → I1 (3 + 4 * q) 8 = I (3 + 4 * q) 8) : Bl I1 := by
  intro q hq
  rw [h q hq]
  exact hb q hq
def Fj (I I1 : Nat → Nat → Int32) : Prop := (Wf I1 ∧ Bl I1) ∧ (cs I I1 ∨ clr I1)
theorem lb_of {I : Nat → Nat → Int32} (hI : Inv I) {r : Nat} (hr : r < 40) (h : Int32.ofInt (r : Int) < I 35 2) : r < bk I := by
  obtain ⟨e, l⟩ := hI.book
  rw [e, oi_lt (by omega) (by omega)] at h
  omega
theorem hp_mono {I I1 : Nat → Nat → Int32} {a : Nat} {x : Int32} (hl : I a 11 ≤ I1 a 11) (h : ¬ v_hasPillar I a x = 0) : ¬ v_hasPillar I1 a x = 0 := by
  unfold v_hasPillar at h ⊢
  by_cases h1 : x < 0
  · rw [if_pos h1] at h
    exact absurd rfl h
  · rw [if_neg h1] at h
    rw [if_neg h1]
    by_cases h2 : I a 11 ≤ x
    · rw [if_pos h2] at h
      exact absurd rfl h
    · rw [if_neg (fun q => h2 (Int32.le_trans hl q))]
      decide
theorem Wr.mono {I I1 : Nat → Nat → Int32} {r : Nat} (h : Wr I r) (hb : ∀ k, k < 4 → I1 (43 + r) k = I (43 + r) k) (h1 : I 1 1 ≤ I1 1 1) (h11 : ∀ h : Nat, h < 8 → I (43 + r) 1 = Int32.ofInt (h : Int) → I (3 + 4 * h) 11 ≤ I1 (3 + 4 * h) 11) : Wr I1 r := by
  obtain ⟨⟨x, x1, x2, x3, x4⟩, x5⟩ := h
  unfold Wr
  rw [hb 0 (by omega), hb 1 (by omega), hb 2 (by omega), hb 3 (by omega)]
  exact ⟨⟨x, x1, x2, Int32.lt_of_lt_of_le x3 h1, fun q => hp_mono (h11 x x1 x2) (x4 q)⟩, x5⟩
theorem cs.wf {I I1 : Nat → Nat → Int32} (h : cs I I1) (hI : Inv I) (hw : Wf I) : Wf I1 := by
  obtain ⟨-, ⟨h2, h3⟩, h4, h5⟩ := h
  intro r hr hl
  rw [h2] at hl
  refine (hw r hr hl).mono (fun k _ => h3 r k hr) h4 (fun h hh e => ?_)
  have := (h5 r (lb_of hI hr hl)).2.1
  have e : q_h I r = h := by
    unfold q_h
    rw [e, oi_cln (by omega)]
  rwa [e] at this
theorem cs.rf {I : Nat → Nat → Int32} : cs I I := ⟨fun _ _ _ _ => rfl, ⟨rfl, fun _ _ _ => rfl⟩, Int32.le_refl _, fun _ _ => ⟨fun _ _ _ => rfl, Int32.le_refl _, fun _ => ⟨rfl, rfl⟩⟩⟩
theorem Fj.rf {I : Nat → Nat → Int32} (hw : Wf I) (hb : Bl I) : Fj I I := ⟨⟨hw, hb⟩, Or.inl cs.rf⟩
theorem le_of_eq32 {x y : Int32} (h : y = x) : x ≤ y := by rw [h]; exact Int32.le_refl _
theorem Fj.fr {I I1 : Nat → Nat → Int32} (hI : Inv I) (hw : Wf I) (h : ∀ a k, ¬ Ns a k → I1 a k = I a k) (hb : Bl I1) : Fj I I1 := by
  have c : cs I I1 := by
    refine ⟨fun a k h1 h2 => h a k (by unfold Ns; omega), ⟨h 35 2 (by unfold Ns; omega), fun r k hr => h _ k (by unfold Ns; omega)⟩, le_of_eq32 (h 1 1 (by unfold Ns; omega)), fun r hr => ?_⟩
    have q8 := hI.qh (hI.lb hr).1
    exact ⟨fun k h1 h2 => h _ _ (by unfold Ns; omega), le_of_eq32 (h _ _ (by unfold Ns; omega)), fun _ => ⟨h _ _ (by unfold Ns; omega), h _ _ (by unfold Ns; omega)⟩⟩
  exact ⟨⟨c.wf hI hw, hb⟩, Or.inl c⟩
/-- a HOUSE gets PILLARS -/
theorem Fj.pil {I I1 : Nat → Nat → Int32} {n P : Nat} (hI : Inv I) (hw : Wf I) (hn : n < 8) (hP : I (3 + 4 * n) 11 = Int32.ofInt (P : Int)) (p6 : P ≤ 6) (h : ∀ a k, ¬ Ns a k → ¬ (a = 3 + 4 * n ∧ k = 11) → ¬ (a = 4 + 4 * n ∧ P ≤ k) → ¬ (a = 5 + 4 * n ∧ P ≤ k) → I1 a k = I a k) (hl : I (3 + 4 * n) 11 ≤ I1 (3 + 4 * n) 11) (hb : Bl I1) : Fj I I1 := by
  have c : cs I I1 := by
    refine ⟨fun a k h1 h2 => h a k (by unfold Ns; omega) (by omega) (by omega) (by omega), ⟨h 35 2 (by unfold Ns; omega) (by omega) (by omega) (by omega), fun r k hr => h _ k (by unfold Ns; omega) (by omega) (by omega) (by omega)⟩, le_of_eq32 (h 1 1 (by unfold Ns; omega) (by omega) (by omega) (by omega)), fun r hr => ?_⟩
    obtain ⟨l1, l2⟩ := hI.lb hr
    have q8 := hI.qh l1
    refine ⟨fun k h1 h2 => h _ _ (by unfold Ns; omega) (by omega) (by omega) (by omega), ?_, fun hk => ?_⟩
    · by_cases e : q_h I r = n
      · rw [e]
        exact hl
      · exact le_of_eq32 (h _ _ (by unfold Ns; omega) (by omega) (by omega) (by omega))
    · have lt : q_h I r = n → q_p I r < P := by
        intro e
        have hp := (hw r l1 l2).hp.2.2.2 hk
        rw [e] at hp
        have g := hI.2.2.2.2.2.2.1 r l1
        obtain ⟨p, p1, p2, ep⟩ := g.2.2.2.2.2.2.2 (by rw [← g.1.1]; exact hk)
        unfold q_p
        rw [g.1.2.2.1, ep] at hp
        rw [g.1.2.2.1, ep, oi_cl (by omega)]
        unfold v_hasPillar at hp
        rw [hP] at hp
        by_cases h1 : Int32.ofInt p < 0
        · rw [if_pos h1] at hp
          exact absurd rfl hp
        · rw [if_neg h1] at hp
          by_cases h2 : Int32.ofInt (P : Int) ≤ Int32.ofInt p
          · rw [if_pos h2] at hp
            exact absurd rfl hp
          · rw [oi_le (by omega) (by omega)] at h2
            omega
      by_cases e : q_h I r = n
      · have := lt e
        exact ⟨h _ _ (by unfold Ns; omega) (by omega) (by omega) (by omega), h _ _ (by unfold Ns; omega) (by omega) (by omega) (by omega)⟩
      · exact ⟨h _ _ (by unfold Ns; omega) (by omega) (by omega) (by omega), h _ _ (by unfold Ns; omega) (by omega) (by omega) (by omega)⟩
  exact ⟨⟨c.wf hI hw, hb⟩, Or.inl c⟩
/-- a HOUSE is built -/
theorem Fj.bld {I I1 : Nat → Nat → Int32} {n : Nat} (hI : Inv I) (hw : Wf I) (hn : n < 8) (hc : I 1 1 = Int32.ofInt (n : Int)) (h : ∀ a k, ¬ Ns a k → ¬ (a = 3 + 4 * n ∧ k < 5) → ¬ (a = 1 ∧ k = 1) → I1 a k = I a k) (hl : I 1 1 ≤ I1 1 1) (hb : Bl I1) : Fj I I1 := by
  have c : cs I I1 := by
    refine ⟨fun a k h1 h2 => h a k (by unfold Ns; omega) (by omega) (by omega), ⟨h 35 2 (by unfold Ns; omega) (by omega) (by omega), fun r k hr => h _ k (by unfold Ns; omega) (by omega) (by omega)⟩, hl, fun r hr => ?_⟩
    obtain ⟨l1, l2⟩ := hI.lb hr
    have q8 := hI.qh l1
    have hlt := (hw r l1 l2).hp.2.2.1
    rw [hc, oi_lt (by omega) (by omega)] at hlt
    exact ⟨fun k h1 h2 => h _ _ (by unfold Ns; omega) (by omega) (by omega), le_of_eq32 (h _ _ (by unfold Ns; omega) (by omega) (by omega)), fun _ => ⟨h _ _ (by unfold Ns; omega) (by omega) (by omega), h _ _ (by unfold Ns; omega) (by omega) (by omega)⟩⟩
  exact ⟨⟨c.wf hI hw, hb⟩, Or.inl c⟩
/-- the book is changed: what was known is cleared; Wf sees these -/
theorem Fj.cl {I I1 : Nat → Nat → Int32} (hw : Wf I) (h : ∀ a k, (43 ≤ a ∧ a ≤ 82 ∧ k < 4) ∨ (a = 35 ∧ k = 2) ∨ (a = 1 ∧ k = 1) ∨ (3 ≤ a ∧ a ≤ 34 ∧ k = 11) → I1 a k = I a k) (hc : clr I1) (hb : Bl I1) : Fj I I1 := by
  refine ⟨⟨fun r hr hl => ?_, hb⟩, Or.inr hc⟩
  rw [h 35 2 (by omega)] at hl
  exact (hw r hr hl).mono (fun k hk => h _ _ (by omega)) (le_of_eq32 (h 1 1 (by omega))) (fun q hq _ => le_of_eq32 (h _ _ (by omega)))
/-- a REPORT is written -/
theorem Wf.wrt {I I1 : Nat → Nat → Int32} {n : Nat} (hw : Wf I) (hc : I 35 2 = Int32.ofInt (n : Int)) (hn : n < 40) (h : ∀ a k, (43 ≤ a ∧ a ≤ 82 ∧ k < 4 ∧ a ≠ 43 + n) ∨ (a = 1 ∧ k = 1) ∨ (3 ≤ a ∧ a ≤ 34 ∧ k = 11) → I1 a k = I a k) (e : I1 35 2 = Int32.ofInt (n : Int) + 1) (hr : Wr I1 n) : Wf I1 := by
  intro r hr' hl
  rw [e, oi_succ, oi_lt (by omega) (by omega)] at hl
  by_cases en : r = n
  · rw [en]
    exact hr
  · exact (hw r hr' (by rw [hc, oi_lt (by omega) (by omega)]; omega)).mono (fun k hk => h _ _ (by omega)) (le_of_eq32 (h 1 1 (by omega))) (fun q hq _ => le_of_eq32 (h _ _ (by omega)))
theorem Wf.emp {I1 : Nat → Nat → Int32} (h : I1 35 2 = 0) : Wf I1 := by
  intro r hr hl
  rw [h] at hl
  exact absurd hl (oiz r (by omega))
theorem Wf.sm {I I1 : Nat → Nat → Int32} (hw : Wf I) (h : sm I I1) : Wf I1 := by
  intro r hr hl
  rw [h 35 2 (nSc (by omega))] at hl
  exact (hw r hr hl).mono (fun k hk => h _ _ (nSc (by omega))) (le_of_eq32 (h 1 1 (nSc (by omega)))) (fun q hq _ => le_of_eq32 (h _ _ (nSc (by omega))))
theorem Bl.sm {I I1 : Nat → Nat → Int32} (hb : Bl I) (h : sm I I1) : Bl I1 := hb.fr (fun q hq => h _ _ (nSc (by omega)))
