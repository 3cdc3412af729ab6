theorem within_c {x : Int32} : (¬ v_within x 1 1000000 = 0) ↔ (1 ≤ x ∧ x ≤ 1000000) := by
  unfold v_within
  by_cases a : x < 1
  · rw [if_pos a]
    exact ⟨fun q => absurd rfl q, fun q => absurd a (Int32.not_lt.mpr q.1)⟩
  · rw [if_neg a]
    by_cases b : 1000000 < x
    · rw [if_pos b]
      exact ⟨fun q => absurd rfl q, fun q => absurd b (Int32.not_lt.mpr q.2)⟩
    · rw [if_neg b]
      exact ⟨fun _ => ⟨Int32.not_lt.mp a, Int32.not_lt.mp b⟩, fun _ => by decide⟩
theorem le_1 {x : Int32} : 1 ≤ x ↔ 0 < x := by
  obtain ⟨z, rfl, z1, z2⟩ := oi_of x
  rw [show (1 : Int32) = Int32.ofInt 1 from rfl, show (0 : Int32) = Int32.ofInt 0 from rfl, oi_le (by omega) (by omega), oi_lt (by omega) (by omega)]
  omega
/-- the TIME that is found first, on both sides -/
theorem tf_rf {I I1 : Nat → Nat → Int32} (hI : Inv I) (hw : Wf I) {c i : Nat} (hc : c < 576) (hi : i < 24) (h : Lg I I1 (gn c i)) {x : Int64} (hx : ∀ r, r < bk I → tl x r = clr' (Vc I c) i r) : ∀ m, m ≤ bk I → (rfo I1 m).1 + (tfo (Vc I c) x m).1 = nvn (Vc I c) i (bk I) + lcn x (bk I) ∧ (rfo I1 m).2 = (tfo (Vc I c) x m).2 ∧ tin (tfo (Vc I c) x m).2 ∧ Cn (Vc I c) x 0 ≤ (tfo (Vc I c) x m).1 ∧ ((tfo (Vc I c) x m).1 = Cn (Vc I c) x 0 → (tfo (Vc I c) x m).2 = 0) := by
  have WC : ∀ t, tin t → wn I1 t + Cn (Vc I c) x t = nvn (Vc I c) i (bk I) + lcn x (bk I) := by
    intro t ht
    unfold wn Cn
    rw [bk_V, h.1]
    exact wn_eq hI hw hc hi h ht hx _ (Nat.le_refl _)
  have t0 : tin 0 := ⟨Int32.le_refl _, by decide⟩
  intro m
  induction m with
  | zero => exact fun _ => ⟨WC 0 t0, rfl, t0, Nat.le_refl _, fun _ => rfl⟩
  | succ m ih =>
    intro hm
    obtain ⟨a1, a2, a3, a4, a5⟩ := ih (by omega)
    obtain ⟨l1, l2, l3⟩ := h.2.2 m (by omega)
    have hmx := hx m (by omega)
    have rs : rfo I1 (m + 1) = if ask I1 m then rst (wn I1) (rfo I1 m) (rr_fr I1 m) else rfo I1 m := rfl
    have ts : tfo (Vc I c) x (m + 1) = if tl x m = true then tst (Cn (Vc I c) x) (tfo (Vc I c) x m) (Vc I c 41 m) else tfo (Vc I c) x m := rfl
    have same : rfo I1 (m + 1) = rfo I1 m → tfo (Vc I c) x (m + 1) = tfo (Vc I c) x m → (rfo I1 (m + 1)).1 + (tfo (Vc I c) x (m + 1)).1 = nvn (Vc I c) i (bk I) + lcn x (bk I) ∧ (rfo I1 (m + 1)).2 = (tfo (Vc I c) x (m + 1)).2 ∧ tin (tfo (Vc I c) x (m + 1)).2 ∧ Cn (Vc I c) x 0 ≤ (tfo (Vc I c) x (m + 1)).1 ∧ ((tfo (Vc I c) x (m + 1)).1 = Cn (Vc I c) x 0 → (tfo (Vc I c) x (m + 1)).2 = 0) := by
      intro e1 e2
      rw [e1, e2]
      exact ⟨a1, a2, a3, a4, a5⟩
    have kk : tl x m = true ↔ I 132 m = 0 ∧ I 128 m = 2 ∧ g_so I (gn c i) m = true := by
      rw [hmx]
      unfold clr'
      rw [onr_V hI c (show m < bk I by omega), so_V hI hw hc hi (show m < bk I by omega), kd_V hI c (show m < bk I by omega), Bool.and_eq_true, Bool.and_eq_true, decide_eq_true_eq, decide_eq_true_eq]
    by_cases ht : tl x m = true
    · obtain ⟨k1, k2, k3⟩ := kk.mp ht
      rw [if_pos ht] at ts
      have f1 : Vc I c 41 m = am_max 0 (g_fr I (gn c i) m) := by
        show q_from I (Int32.ofInt (c : Int)) m = _
        rw [(time_eq hI hw hc hi (show m < bk I by omega)).1, decide_eq_true k2, if_pos rfl]
      rw [f1] at ts
      have ka : ask I1 m ↔ 1 ≤ g_fr I (gn c i) m ∧ g_fr I (gn c i) m ≤ 1000000 := by
        rw [← within_c, ← l2]
        exact ⟨fun q => q.2.2.2, fun q => ⟨(h.2.1 m).1.trans k1, (h.2.1 m).2.trans k2, l1.trans k3, q⟩⟩
      by_cases p0 : 0 < g_fr I (gn c i) m
      · have em : am_max 0 (g_fr I (gn c i) m) = g_fr I (gn c i) m := if_pos p0
        rw [em] at ts
        by_cases p1 : g_fr I (gn c i) m ≤ 1000000
        · have u := WC _ ⟨Int32.le_trans (by decide) (le_1.mpr p0), p1⟩
          have ut : tin (g_fr I (gn c i) m) := ⟨Int32.le_trans (by decide) (le_1.mpr p0), p1⟩
          rw [if_pos (ka.mpr ⟨le_1.mpr p0, p1⟩), l2] at rs
          unfold tst at ts
          unfold rst at rs
          rw [if_pos p1] at ts
          have tk : ¬ Cn (Vc I c) x (g_fr I (gn c i) m) < (tfo (Vc I c) x m).1 → rfo I1 (m + 1) = (wn I1 (g_fr I (gn c i) m), g_fr I (gn c i) m) → tfo (Vc I c) x (m + 1) = (Cn (Vc I c) x (g_fr I (gn c i) m), g_fr I (gn c i) m) → ((tfo (Vc I c) x m).1 < Cn (Vc I c) x (g_fr I (gn c i) m) ∨ ¬ (tfo (Vc I c) x m).2 = 0) → (rfo I1 (m + 1)).1 + (tfo (Vc I c) x (m + 1)).1 = nvn (Vc I c) i (bk I) + lcn x (bk I) ∧ (rfo I1 (m + 1)).2 = (tfo (Vc I c) x (m + 1)).2 ∧ tin (tfo (Vc I c) x (m + 1)).2 ∧ Cn (Vc I c) x 0 ≤ (tfo (Vc I c) x (m + 1)).1 ∧ ((tfo (Vc I c) x (m + 1)).1 = Cn (Vc I c) x 0 → (tfo (Vc I c) x (m + 1)).2 = 0) := by
            intro g e1 e2 o
            rw [e1, e2]
            refine ⟨u, rfl, ut, ?_, fun z => ?_⟩
            · show Cn (Vc I c) x 0 ≤ Cn (Vc I c) x (g_fr I (gn c i) m)
              omega
            · have z : Cn (Vc I c) x (g_fr I (gn c i) m) = Cn (Vc I c) x 0 := z
              rcases o with o | o
              · omega
              · exact absurd (a5 (by omega)) o
          by_cases q1 : (tfo (Vc I c) x m).1 < Cn (Vc I c) x (g_fr I (gn c i) m)
          · rw [if_pos q1] at ts
            rw [if_pos (by omega)] at rs
            exact tk (by omega) rs ts (Or.inl q1)
          · rw [if_neg q1] at ts
            rw [if_neg (by omega)] at rs
            by_cases q2 : Cn (Vc I c) x (g_fr I (gn c i) m) = (tfo (Vc I c) x m).1
            · rw [if_pos q2] at ts
              rw [if_pos (by omega), a2] at rs
              by_cases q3 : (tfo (Vc I c) x m).2 ≤ g_fr I (gn c i) m
              · rw [if_pos q3] at ts rs
                exact same rs ts
              · rw [if_neg q3] at ts rs
                refine tk (by omega) rs ts (Or.inr (fun z => q3 ?_))
                rw [z]
                exact ut.1
            · rw [if_neg q2] at ts
              rw [if_neg (by omega)] at rs
              exact same rs ts
        · rw [if_neg (fun q => p1 (ka.mp q).2)] at rs
          unfold tst at ts
          rw [if_neg p1] at ts
          exact same rs ts
      · have em : am_max 0 (g_fr I (gn c i) m) = 0 := if_neg p0
        rw [em] at ts
        rw [if_neg (fun q => p0 (le_1.mp (ka.mp q).1))] at rs
        unfold tst at ts
        rw [if_pos (show (0 : Int32) ≤ 1000000 by decide), if_neg (show ¬ (tfo (Vc I c) x m).1 < Cn (Vc I c) x 0 by omega)] at ts
        refine same rs ?_
        rw [ts]
        by_cases q2 : Cn (Vc I c) x 0 = (tfo (Vc I c) x m).1
        · rw [if_pos q2, if_pos (by rw [a5 q2.symm]; exact Int32.le_refl _)]
        · rw [if_neg q2]
    · rw [if_neg ht] at ts
      refine same ?_ ts
      rw [rs, if_neg]
      intro q
      refine ht (kk.mpr ⟨(h.2.1 m).1.symm.trans q.1, (h.2.1 m).2.symm.trans q.2.1, l1.symm.trans q.2.2.1⟩)
/-- a guess's numbers are the same -/
theorem guess_eq {I I1 : Nat → Nat → Int32} (hI : Inv I) (hw : Wf I) {c i : Nat} (hc : c < 576) (hi : i < 24) (h : Lg I I1 (gn c i)) : gNv (Vc I c) i = wa I1 ∧ gH (Vc I c) i = (rfo I1 (bk I1)).1 ∧ gTm (Vc I c) i = (rfo I1 (bk I1)).2 := by
  have hV := Vc.inv hI c
  obtain ⟨e, l⟩ := hI.book
  have bV := bk_V I c
  have ht := tl_cS (clr' (Vc I c) i) (bk I) l
  have hx : ∀ r, r < bk I → tl (cst (Vc I c) i) r = clr' (Vc I c) i r := by
    intro r hr
    show tl (cS (clr' (Vc I c) i) (bk (Vc I c))) r = _
    rw [bV, ht r, decide_eq_true hr]
    rfl
  have h0 : ∀ r, bk I ≤ r → tl (cst (Vc I c) i) r = false := by
    intro r hr
    show tl (cS (clr' (Vc I c) i) (bk (Vc I c))) r = _
    rw [bV, ht r, decide_eq_false (by omega)]
    rfl
  have e40 := lcn_hi (cst (Vc I c) i) h0 40 l
  obtain ⟨b1, b2, -⟩ := tf_rf hI hw hc hi h hx (bk I) (Nat.le_refl _)
  have K := tfo_K (Vc I c) (cst (Vc I c) i) (bk I)
  rw [bV] at K
  refine ⟨fN_wa hI hw hc hi h, ?_, ?_⟩
  · unfold gH gNv
    rw [bV, e40, h.1]
    omega
  · unfold gTm
    rw [bV, h.1, b2]
