/-! A GUESS, on both sides -/
/-- a state that looks at a guess -/
def Lg (I I1 : Nat → Nat → Int32) (g : Int32) : Prop := bk I1 = bk I ∧ (∀ r, I1 132 r = I 132 r ∧ I1 128 r = I 128 r) ∧ ∀ r, r < bk I → rr_is I1 r = g_so I g r ∧ rr_fr I1 r = g_fr I g r ∧ rr_tl I1 r = g_tl I g r
theorem onr_V {I : Nat → Nat → Int32} (hI : Inv I) (c : Nat) {r : Nat} (hr : r < bk I) : onr (Vc I c) r = decide (I 132 r = 0) := by
  unfold onr
  rw [Vc.o I c (by omega)]
  have e := hI.on hr
  by_cases h : I 132 r = 0
  · rw [decide_eq_true h, decide_eq_false (by rw [e]; exact fun q => q h)]
    rfl
  · rw [decide_eq_false h, decide_eq_true (by rw [e]; exact h)]
    rfl
theorem so_V {I : Nat → Nat → Int32} (hI : Inv I) (hw : Wf I) {c i r : Nat} (hc : c < 576) (hi : i < 24) (hr : r < bk I) : tb (Vc I c 40 r) i = g_so I (gn c i) r := so_eq hI hw hc hi hr
theorem kd_V {I : Nat → Nat → Int32} (hI : Inv I) (c : Nat) {r : Nat} (hr : r < bk I) : Vc I c (43 + r) 0 = I 128 r := by
  rw [Vc.o I c (by omega)]
  exact (hI.2.2.2.2.2.2.1 r (hI.lb hr).1).1.1
theorem nv_wa {I I1 : Nat → Nat → Int32} (hI : Inv I) (hw : Wf I) {c i : Nat} (hc : c < 576) (hi : i < 24) (h : Lg I I1 (gn c i)) {r : Nat} (hr : r < bk I) : nvr (Vc I c) i r = wab I1 r := by
  unfold nvr wab
  rw [onr_V hI c hr, so_V hI hw hc hi hr, (h.2.1 r).1, (h.2.2 r hr).1]
theorem cntB_nv (V : Nat → Nat → Int32) (b : Nat) : ∀ m, nvn V b m = cntB (nvr V b) m := by
  intro m
  induction m with
  | zero => rfl
  | succ m ih =>
    show nvn V b m + (if nvr V b m = true then 1 else 0) = cntB (nvr V b) m + (if nvr V b m = true then 1 else 0)
    rw [ih]
theorem bk_V (I : Nat → Nat → Int32) (c : Nat) : bk (Vc I c) = bk I := by
  unfold bk
  rw [Vc.o I c (by omega)]
theorem fN_wa {I I1 : Nat → Nat → Int32} (hI : Inv I) (hw : Wf I) {c i : Nat} (hc : c < 576) (hi : i < 24) (h : Lg I I1 (gn c i)) : gNv (Vc I c) i = wa I1 := by
  unfold gNv wa
  rw [bk_V, cntB_nv, h.1]
  exact cntB_cg _ (fun r hr => nv_wa hI hw hc hi h hr)
/-- within the TIMES -/
def tin (t : Int32) : Prop := 0 ≤ t ∧ t ≤ 1000000
theorem hr_eq {t f l : Int32} (ht : tin t) : (!decide (t < am_max 0 f) && !decide (am_min 1000000 l < t)) = (!decide (t < f) && !decide (l < t)) := by
  have e1 : (t < am_max 0 f) = (t < f) := by
    unfold am_max
    by_cases h : 0 < f
    · rw [if_pos h]
    · rw [if_neg h]
      exact propext ⟨fun q => absurd q (Int32.not_lt.mpr ht.1), fun q => absurd (Int32.lt_of_le_of_lt ht.1 q) h⟩
  have e2 : (am_min 1000000 l < t) = (l < t) := by
    unfold am_min
    by_cases h : l < 1000000
    · rw [if_pos h]
    · rw [if_neg h]
      exact propext ⟨fun q => absurd q (Int32.not_lt.mpr ht.2), fun q => absurd (Int32.lt_of_lt_of_le q ht.2) h⟩
  rw [decide_eq_decide.mpr (iff_of_eq e1), decide_eq_decide.mpr (iff_of_eq e2)]
theorem wr_eq {I I1 : Nat → Nat → Int32} (hI : Inv I) (hw : Wf I) {c i : Nat} (hc : c < 576) (hi : i < 24) (h : Lg I I1 (gn c i)) {t : Int32} (ht : tin t) {x : Int64} {r : Nat} (hr : r < bk I) (hx : tl x r = clr' (Vc I c) i r) : (if wrb I1 r t = true then 1 else 0) + (if cth (Vc I c) x t r = true then 1 else 0) = (if nvr (Vc I c) i r = true then 1 else 0) + (if tl x r = true then 1 else 0) := by
  obtain ⟨t1, t2⟩ := time_eq hI hw hc hi hr
  obtain ⟨l1, l2, l3⟩ := h.2.2 r hr
  have e : wrb I1 r t = (onr (Vc I c) r && (!tb (Vc I c 40 r) i || (decide (I 128 r = 2) && (decide (t < g_fr I (gn c i) r) || decide (g_tl I (gn c i) r < t))))) := by
    unfold wrb
    rw [onr_V hI c hr, so_V hI hw hc hi hr, l1, l2, l3, (h.2.1 r).1, (h.2.1 r).2]
  rw [e]
  unfold cth nvr
  rw [hx]
  unfold clr'
  rw [kd_V hI c hr]
  cases onr (Vc I c) r with
  | false => rfl
  | true =>
    cases tb (Vc I c 40 r) i with
    | false =>
      rw [Bool.and_false, Bool.and_false, Bool.false_and]
      rfl
    | true =>
      by_cases k2 : I 128 r = 2
      · have f1 : Vc I c 41 r = am_max 0 (g_fr I (gn c i) r) := by
          show q_from I (Int32.ofInt (c : Int)) r = _
          rw [t1, decide_eq_true k2, if_pos rfl]
        have f2 : Vc I c 42 r = am_min 1000000 (g_tl I (gn c i) r) := by
          show q_till I (Int32.ofInt (c : Int)) r = _
          rw [t2, decide_eq_true k2, if_pos rfl]
        rw [f1, f2, hr_eq ht, decide_eq_true k2]
        cases decide (t < g_fr I (gn c i) r) <;> cases decide (g_tl I (gn c i) r < t) <;> rfl
      · rw [decide_eq_false k2]
        rfl
theorem wn_eq {I I1 : Nat → Nat → Int32} (hI : Inv I) (hw : Wf I) {c i : Nat} (hc : c < 576) (hi : i < 24) (h : Lg I I1 (gn c i)) {t : Int32} (ht : tin t) {x : Int64} (hx : ∀ r, r < bk I → tl x r = clr' (Vc I c) i r) : ∀ m, m ≤ bk I → cntB (fun r => wrb I1 r t) m + ctn (Vc I c) x t m = nvn (Vc I c) i m + lcn x m := by
  intro m
  induction m with
  | zero => intro _; rfl
  | succ m ih =>
    intro hm
    have i0 := ih (by omega)
    have i1 := wr_eq hI hw hc hi h ht (show m < bk I by omega) (hx m (by omega))
    show (cntB (fun r => wrb I1 r t) m + (if wrb I1 m t = true then 1 else 0)) + (ctn (Vc I c) x t m + (if cth (Vc I c) x t m = true then 1 else 0)) = (nvn (Vc I c) i m + (if nvr (Vc I c) i m = true then 1 else 0)) + (lcn x m + (if tl x m = true then 1 else 0))
    omega
