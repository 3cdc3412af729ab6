theorem nw_0 : am_K0.zipIdx.all (fun r => !decide (r.1.1 = 9) || decide (r.2 = 0)) = true := by decide +kernel
theorem nw_fr {I I' : Nat → Nat → Int32} {J J' : Nat → Nat → Int64} (h : Nk [(9, 8)] (am_N I J) (am_N I' J')) : ∀ a k, ¬ (a = 0 ∧ k = 8) → I' a k = I a k := by
  intro a k q
  rcases h.2 a k with e | ⟨ci, n, e1, e2⟩
  · exact e
  · have e1 : ci = 9 ∧ k = 8 := by
      have := List.mem_singleton.mp e1
      injection this with p1 p2
      exact ⟨p1, p2⟩
    have hm : ((ci, n), a) ∈ am_K0.zipIdx := List.mem_zipIdx_iff_getElem?.mpr e2
    have h1 := List.all_eq_true.mp nw_0 _ hm
    dsimp only at h1
    rw [decide_eq_true e1.1] at h1
    exact absurd ⟨of_decide_eq_true h1, e1.2⟩ q
/-! WHAT IS INFERRED, and from what -/
def Sm (I I1 : Nat → Nat → Int32) : Prop := bk I1 = bk I ∧ ∀ r, r < bk I → (∀ k, I1 (43 + r) k = I (43 + r) k) ∧ ∀ c, q_so I1 c r = q_so I c r ∧ q_from I1 c r = q_from I c r ∧ q_till I1 c r = q_till I c r
theorem cs.q {I I1 : Nat → Nat → Int32} (h : cs I I1) (hI : Inv I) : Sm I I1 := by
  obtain ⟨-, ⟨h2, h3⟩, -, h5⟩ := h
  refine ⟨by unfold bk; rw [h2], fun r hr => ?_⟩
  have l1 := (hI.lb hr).1
  have ea : ∀ k, I1 (43 + r) k = I (43 + r) k := fun k => h3 r k l1
  obtain ⟨b1, -, b3⟩ := h5 r hr
  refine ⟨ea, fun c => ?_⟩
  have eh : q_h I1 r = q_h I r := by unfold q_h; rw [ea]
  unfold q_so q_from q_till kf kt q_far q_way kb
  rw [eh, ea, ea, ea, b1 1 (by omega) (by omega), b1 2 (by omega) (by omega), b1 3 (by omega) (by omega), b1 4 (by omega) (by omega), b1 5 (by omega) (by omega), b1 6 (by omega) (by omega)]
  refine ⟨?_, rfl, rfl⟩
  by_cases hk : I (43 + r) 0 = 1
  · obtain ⟨p1, p2⟩ := b3 hk
    unfold q_p at p1 p2
    rw [p1, p2]
  · exact bits_nk hk _ _
def vw (I I1 : Nat → Nat → Int32) : Prop := ∀ a k, (a = 1 ∨ (3 ≤ a ∧ a ≤ 34) ∨ (a = 35 ∧ k = 2) ∨ (43 ≤ a ∧ a ≤ 82)) → I1 a k = I a k
theorem vw.rf {I : Nat → Nat → Int32} : vw I I := fun _ _ _ => rfl
theorem vw.tr {I I1 I2 : Nat → Nat → Int32} (h : vw I I1) (h' : vw I1 I2) : vw I I2 := fun a k q => (h' a k q).trans (h a k q)
theorem wx.vw {I I1 : Nat → Nat → Int32} (h : wx I I1) : vw I I1 := fun a k q => h a k (by omega) (by omega)
theorem vw.q {I I1 : Nat → Nat → Int32} (h : vw I I1) (hI : Inv I) : Sm I I1 := by
  refine ⟨by unfold bk; rw [h 35 2 (by omega)], fun r hr => ?_⟩
  have l1 := (hI.lb hr).1
  have q8 := hI.qh l1
  have ea : ∀ k, I1 (43 + r) k = I (43 + r) k := fun k => h _ k (by omega)
  have eh : q_h I1 r = q_h I r := by unfold q_h; rw [ea]
  refine ⟨ea, fun c => ?_⟩
  unfold q_so q_from q_till kf kt q_far q_way kb
  rw [eh, ea, ea, ea, h (3 + 4 * q_h I r) 1 (by omega), h (3 + 4 * q_h I r) 2 (by omega), h (3 + 4 * q_h I r) 3 (by omega), h (3 + 4 * q_h I r) 4 (by omega), h (3 + 4 * q_h I r) 5 (by omega), h (3 + 4 * q_h I r) 6 (by omega), h (3 + 4 * q_h I r + 1) _ (by omega), h (3 + 4 * q_h I r + 2) _ (by omega)]
  exact ⟨rfl, rfl, rfl⟩
theorem vw.wf {I I1 : Nat → Nat → Int32} (h : vw I I1) (hw : Wf I) : Wf I1 := by
  intro r hr hl
  rw [h 35 2 (by omega)] at hl
  exact (hw r hr hl).mono (fun k _ => h _ _ (by omega)) (le_of_eq32 (h 1 1 (by omega))) (fun q hq _ => le_of_eq32 (h _ _ (by omega)))
theorem vw.bl {I I1 : Nat → Nat → Int32} (h : vw I I1) (hb : Bl I) : Bl I1 := hb.fr (fun q hq => h _ _ (by omega))
theorem Sm.f {I I1 : Nat → Nat → Int32} (h : Sm I I1) {A A' : Nat → Bool} (ha : ∀ r, r < bk I → A' r = A r) (c : Int32) : q_fb I1 c A' = q_fb I c A ∧ q_ff I1 c A' = q_ff I c A ∧ q_ft I1 c A' = q_ft I c A ∧ q_bits I1 c A' = q_bits I c A := by
  obtain ⟨hb, hs⟩ := h
  have e1 : q_fb I1 c A' = q_fb I c A := by
    unfold q_fb
    rw [hb]
    exact fb_cg _ ha (fun r hr _ => ((hs r hr).2 c).1)
  have e2 : q_ff I1 c A' = q_ff I c A := by
    unfold q_ff
    rw [hb]
    exact fF_cg _ ha (fun r hr _ => ((hs r hr).2 c).2.1)
  have e3 : q_ft I1 c A' = q_ft I c A := by
    unfold q_ft
    rw [hb]
    exact fT_cg _ ha (fun r hr _ => ((hs r hr).2 c).2.2)
  refine ⟨e1, e2, e3, ?_⟩
  unfold q_bits
  rw [e1, e2, e3]
theorem Sm.eC {I I1 : Nat → Nat → Int32} (h : Sm I I1) (x y : Int32) : ∀ r, r < bk I → aC I1 x y r = aC I x y r := by
  intro r hr
  have ea := (h.2 r hr).1
  unfold aC
  rw [ea, ea]
/-- the bits of a cell that fit all that is on; how many in the first cells -/
def fbit (I : Nat → Nat → Int32) (c : Nat) : Int32 := q_bits I (Int32.ofInt (c : Int)) (aC I (-1) 1)
def fcn (I : Nat → Nat → Int32) : Nat → Nat
  | 0 => 0
  | m + 1 => fcn I m + pcn (fbit I m) 24
theorem Sm.bit {I I1 : Nat → Nat → Int32} (h : Sm I I1) (c : Nat) : fbit I1 c = fbit I c := (h.f (h.eC (-1) 1) _).2.2.2
theorem Sm.cn {I I1 : Nat → Nat → Int32} (h : Sm I I1) : ∀ m, fcn I1 m = fcn I m := by
  intro m
  induction m with
  | zero => rfl
  | succ m ih =>
    show fcn I1 m + pcn (fbit I1 m) 24 = fcn I m + pcn (fbit I m) 24
    rw [ih, h.bit]
theorem fcn_le (I : Nat → Nat → Int32) : ∀ m, fcn I m ≤ 24 * m := by
  intro m
  induction m with
  | zero => exact Nat.le_refl 0
  | succ m ih =>
    have := pcn_le (fbit I m) 24
    show fcn I m + pcn (fbit I m) 24 ≤ 24 * (m + 1)
    omega
theorem M24.ft {I : Nat → Nat → Int32} {c : Nat} : M24 (fbit I c) := M24.q
/-- what the class holds for known of what fits -/
def Cf (I : Nat → Nat → Int32) : Prop := ¬ I 83 5 = 0 → (∀ c, c < 576 → I 84 c = fbit I c) ∧ I 83 4 = Int32.ofInt (fcn I 576 : Int)
theorem Cf.of {I I1 : Nat → Nat → Int32} (h : Cf I) (hs : Sm I I1) (e : ∀ a k, 83 ≤ a → a ≤ 84 → I1 a k = I a k) : Cf I1 := by
  intro q
  rw [e 83 5 (by omega) (by omega)] at q
  obtain ⟨h1, h2⟩ := h q
  refine ⟨fun c hc => ?_, ?_⟩
  · rw [e 84 c (by omega) (by omega), hs.bit]
    exact h1 c hc
  · rw [e 83 4 (by omega) (by omega), hs.cn]
    exact h2
theorem Fj.cf {I I1 : Nat → Nat → Int32} (h : Fj I I1) (hI : Inv I) (hc : Cf I) : Cf I1 := by
  rcases h.2 with q | q
  · exact hc.of (q.q hI) (fun a k h1 h2 => q.1 a k h1 (by omega))
  · exact fun p => absurd q.1 p
theorem Sm.sy {I I1 : Nat → Nat → Int32} (h : Sm I I1) : Sm I1 I := by
  obtain ⟨h1, h2⟩ := h
  refine ⟨h1.symm, fun r hr => ?_⟩
  rw [h1] at hr
  obtain ⟨p, q⟩ := h2 r hr
  exact ⟨fun k => (p k).symm, fun c => ⟨(q c).1.symm, (q c).2.1.symm, (q c).2.2.symm⟩⟩
theorem lo_sm {I I1 : Nat → Nat → Int32} (hI : Inv I1) (h : ∀ a, a < 105 → I1 a = I a) : Sm I I1 := ((show vw I1 I from fun a k q => by rw [h a (by omega)]).q hI).sy
theorem Cf.lo {I I1 : Nat → Nat → Int32} (hI : Inv I1) (h : ∀ a, a < 105 → I1 a = I a) (hc : Cf I) : Cf I1 := hc.of (lo_sm hI h) (fun a k _ _ => by rw [h a (by omega)])
def nwS : List Nat := [1, 4, 18, 19, 20, 21, 22, 23, 24, 25, 26, 45, 52, 53, 56, 58, 59, 69, 72, 74, 84, 85, 86, 87, 92, 106, 107, 111, 118, 119, 120, 121, 122, 123, 124, 125, 128, 129, 131, 132, 133, 134]
theorem nwS_ok : nwJ nwS [(9, 8)] = true := by decide +kernel
theorem f_84 {X : am_X} {d : Nat} {I : Nat → Nat → Int32} {J : Nat → Nat → Int64} {Q : Option Value → am_M → Prop} {x0 : Int32} {x1 : Int32} (hI : Inv I) (hw : Wf I) (hb0 : Bl I) (k : ∀ (v : Option Value) (I1 : Nat → Nat → Int32) (J1 : Nat → Nat → Int64), Fj I I1 → Q v (am_N I1 J1)) : am_wp X (d + 2) 84 0 [.ref 0, .int x0, .int x1, am_uv] [] (am_N I J) Q := am_wp_to (am_wp_nw nwS_ok (by decide) (z_84 hI (Q := fun _ s => ∃ (I1 : Nat → Nat → Int32) (J1 : Nat → Nat → Int64), s = am_N I1 J1) (fun r I' J' _ _ => ⟨I', J', rfl⟩))) (fun v s h => by obtain ⟨⟨I1, J1, rfl⟩, hn⟩ := h; exact k v I1 J1 (Fj.fr hI hw (fun a j q => nw_fr hn a j (fun p => q (by unfold Ns; omega))) (hb0.fr (fun q hq => nw_fr hn _ _ (by omega)))))
theorem f_85 {X : am_X} {d : Nat} {I : Nat → Nat → Int32} {J : Nat → Nat → Int64} {Q : Option Value → am_M → Prop} {x0 : Int32} (hI : Inv I) (hw : Wf I) (hb0 : Bl I) (k : ∀ (v : Option Value) (I1 : Nat → Nat → Int32) (J1 : Nat → Nat → Int64), Fj I I1 → Q v (am_N I1 J1)) : am_wp X (d + 1) 85 0 [.ref 0, .int x0, am_uv] [] (am_N I J) Q := am_wp_to (am_wp_nw nwS_ok (by decide) (z_85 hI (Q := fun _ s => ∃ (I1 : Nat → Nat → Int32) (J1 : Nat → Nat → Int64), s = am_N I1 J1) (fun r I' J' _ _ => ⟨I', J', rfl⟩))) (fun v s h => by obtain ⟨⟨I1, J1, rfl⟩, hn⟩ := h; exact k v I1 J1 (Fj.fr hI hw (fun a j q => nw_fr hn a j (fun p => q (by unfold Ns; omega))) (hb0.fr (fun q hq => nw_fr hn _ _ (by omega)))))
theorem f_86 {X : am_X} {d : Nat} {I : Nat → Nat → Int32} {J : Nat → Nat → Int64} {Q : Option Value → am_M → Prop} {x0 : Int32} {x1 : Int32} {x2 : Int32} (hI : Inv I) (hw : Wf I) (hb0 : Bl I) (k : ∀ (v : Option Value) (I1 : Nat → Nat → Int32) (J1 : Nat → Nat → Int64), Fj I I1 → Q v (am_N I1 J1)) : am_wp X (d + 1) 86 0 [.ref 0, .int x0, .int x1, .int x2, am_uv] [] (am_N I J) Q := am_wp_to (am_wp_nw nwS_ok (by decide) (z_86 hI (Q := fun _ s => ∃ (I1 : Nat → Nat → Int32) (J1 : Nat → Nat → Int64), s = am_N I1 J1) (fun r I' J' _ _ => ⟨I', J', rfl⟩))) (fun v s h => by obtain ⟨⟨I1, J1, rfl⟩, hn⟩ := h; exact k v I1 J1 (Fj.fr hI hw (fun a j q => nw_fr hn a j (fun p => q (by unfold Ns; omega))) (hb0.fr (fun q hq => nw_fr hn _ _ (by omega)))))
theorem f_87 {X : am_X} {d : Nat} {I : Nat → Nat → Int32} {J : Nat → Nat → Int64} {Q : Option Value → am_M → Prop} {x0 : Int32} {x1 : Int32} {x2 : Int32} {x3 : Int32} {x4 : Int32} {x5 : Int32} {x6 : Int32} (hI : Inv I) (hw : Wf I) (hb0 : Bl I) (k : ∀ (v : Option Value) (I1 : Nat → Nat → Int32) (J1 : Nat → Nat → Int64), Fj I I1 → Q v (am_N I1 J1)) : am_wp X (d + 3) 87 0 [.ref 0, .int x0, .int x1, .int x2, .int x3, .int x4, .int x5, .int x6, am_uv, am_uv] [] (am_N I J) Q := am_wp_to (am_wp_nw nwS_ok (by decide) (z_87 hI (Q := fun _ s => ∃ (I1 : Nat → Nat → Int32) (J1 : Nat → Nat → Int64), s = am_N I1 J1) (fun r I' J' _ _ => ⟨I', J', rfl⟩))) (fun v s h => by obtain ⟨⟨I1, J1, rfl⟩, hn⟩ := h; exact k v I1 J1 (Fj.fr hI hw (fun a j q => nw_fr hn a j (fun p => q (by unfold Ns; omega))) (hb0.fr (fun q hq => nw_fr hn _ _ (by omega)))))
theorem f_92 {X : am_X} {d : Nat} {I : Nat → Nat → Int32} {J : Nat → Nat → Int64} {Q : Option Value → am_M → Prop} {x0 : Int32} {x1 : Int32} (hI : Inv I) (hw : Wf I) (hb0 : Bl I) (k : ∀ (v : Option Value) (I1 : Nat → Nat → Int32) (J1 : Nat → Nat → Int64), Fj I I1 → Q v (am_N I1 J1)) : am_wp X (d + 1) 92 0 [.ref 0, .int x0, .int x1, am_uv] [] (am_N I J) Q := am_wp_to (am_wp_nw nwS_ok (by decide) (z_92 hI (Q := fun _ s => ∃ (I1 : Nat → Nat → Int32) (J1 : Nat → Nat → Int64), s = am_N I1 J1) (fun r I' J' _ _ => ⟨I', J', rfl⟩))) (fun v s h => by obtain ⟨⟨I1, J1, rfl⟩, hn⟩ := h; exact k v I1 J1 (Fj.fr hI hw (fun a j q => nw_fr hn a j (fun p => q (by unfold Ns; omega))) (hb0.fr (fun q hq => nw_fr hn _ _ (by omega)))))
theorem f_106 {X : am_X} {d : Nat} {I : Nat → Nat → Int32} {J : Nat → Nat → Int64} {Q : Option Value → am_M → Prop} {x0 : Int32} {x1 : Int32} (hI : Inv I) (hw : Wf I) (hb0 : Bl I) (k : ∀ (v : Option Value) (I1 : Nat → Nat → Int32) (J1 : Nat → Nat → Int64), Fj I I1 → Q v (am_N I1 J1)) : am_wp X (d + 5) 106 0 [.ref 0, .int x0, .int x1] [] (am_N I J) Q := am_wp_to (am_wp_nw nwS_ok (by decide) (z_106 hI (Q := fun _ s => ∃ (I1 : Nat → Nat → Int32) (J1 : Nat → Nat → Int64), s = am_N I1 J1) (fun r I' J' _ _ => ⟨I', J', rfl⟩))) (fun v s h => by obtain ⟨⟨I1, J1, rfl⟩, hn⟩ := h; exact k v I1 J1 (Fj.fr hI hw (fun a j q => nw_fr hn a j (fun p => q (by unfold Ns; omega))) (hb0.fr (fun q hq => nw_fr hn _ _ (by omega)))))
theorem f_107 {X : am_X} {d : Nat} {I : Nat → Nat → Int32} {J : Nat → Nat → Int64} {Q : Option Value → am_M → Prop} {x0 : Int32} (hI : Inv I) (hw : Wf I) (hb0 : Bl I) (k : ∀ (v : Option Value) (I1 : Nat → Nat → Int32) (J1 : Nat → Nat → Int64), Fj I I1 → Q v (am_N I1 J1)) : am_wp X (d + 6) 107 0 [.ref 0, .int x0] [] (am_N I J) Q := am_wp_to (am_wp_nw nwS_ok (by decide) (z_107 hI (Q := fun _ s => ∃ (I1 : Nat → Nat → Int32) (J1 : Nat → Nat → Int64), s = am_N I1 J1) (fun r I' J' _ _ => ⟨I', J', rfl⟩))) (fun v s h => by obtain ⟨⟨I1, J1, rfl⟩, hn⟩ := h; exact k v I1 J1 (Fj.fr hI hw (fun a j q => nw_fr hn a j (fun p => q (by unfold Ns; omega))) (hb0.fr (fun q hq => nw_fr hn _ _ (by omega)))))
theorem f_111 {X : am_X} {d : Nat} {I : Nat → Nat → Int32} {J : Nat → Nat → Int64} {Q : Option Value → am_M → Prop} {x0 : Int32} {x1 : Int32} {x2 : Int32} (hI : Inv I) (hw : Wf I) (hb0 : Bl I) (k : ∀ (v : Option Value) (I1 : Nat → Nat → Int32) (J1 : Nat → Nat → Int64), Fj I I1 → Q v (am_N I1 J1)) : am_wp X (d + 2) 111 0 [.ref 0, .int x0, .int x1, .int x2, am_uv] [] (am_N I J) Q := am_wp_to (am_wp_nw nwS_ok (by decide) (z_111 hI (Q := fun _ s => ∃ (I1 : Nat → Nat → Int32) (J1 : Nat → Nat → Int64), s = am_N I1 J1) (fun r I' J' _ _ => ⟨I', J', rfl⟩))) (fun v s h => by obtain ⟨⟨I1, J1, rfl⟩, hn⟩ := h; exact k v I1 J1 (Fj.fr hI hw (fun a j q => nw_fr hn a j (fun p => q (by unfold Ns; omega))) (hb0.fr (fun q hq => nw_fr hn _ _ (by omega)))))
theorem f_118 {X : am_X} {d : Nat} {I : Nat → Nat → Int32} {J : Nat → Nat → Int64} {Q : Option Value → am_M → Prop} {x0 : Int32} {x1 : Int32} (hI : Inv I) (hw : Wf I) (hb0 : Bl I) (k : ∀ (v : Option Value) (I1 : Nat → Nat → Int32) (J1 : Nat → Nat → Int64), Fj I I1 → Q v (am_N I1 J1)) : am_wp X (d + 1) 118 0 [.ref 0, .int x0, .int x1, am_uv] [] (am_N I J) Q := am_wp_to (am_wp_nw nwS_ok (by decide) (z_118 hI (Q := fun _ s => ∃ (I1 : Nat → Nat → Int32) (J1 : Nat → Nat → Int64), s = am_N I1 J1) (fun r I' J' _ _ => ⟨I', J', rfl⟩))) (fun v s h => by obtain ⟨⟨I1, J1, rfl⟩, hn⟩ := h; exact k v I1 J1 (Fj.fr hI hw (fun a j q => nw_fr hn a j (fun p => q (by unfold Ns; omega))) (hb0.fr (fun q hq => nw_fr hn _ _ (by omega)))))
theorem f_119 {X : am_X} {d : Nat} {I : Nat → Nat → Int32} {J : Nat → Nat → Int64} {Q : Option Value → am_M → Prop} (hI : Inv I) (hw : Wf I) (hb0 : Bl I) (k : ∀ (v : Option Value) (I1 : Nat → Nat → Int32) (J1 : Nat → Nat → Int64), Fj I I1 → Q v (am_N I1 J1)) : am_wp X d 119 0 [.ref 0] [] (am_N I J) Q := am_wp_to (am_wp_nw nwS_ok (by decide) (z_119 hI (Q := fun _ s => ∃ (I1 : Nat → Nat → Int32) (J1 : Nat → Nat → Int64), s = am_N I1 J1) (fun r I' J' _ _ => ⟨I', J', rfl⟩))) (fun v s h => by obtain ⟨⟨I1, J1, rfl⟩, hn⟩ := h; exact k v I1 J1 (Fj.fr hI hw (fun a j q => nw_fr hn a j (fun p => q (by unfold Ns; omega))) (hb0.fr (fun q hq => nw_fr hn _ _ (by omega)))))
theorem f_120 {X : am_X} {d : Nat} {I : Nat → Nat → Int32} {J : Nat → Nat → Int64} {Q : Option Value → am_M → Prop} (hI : Inv I) (hw : Wf I) (hb0 : Bl I) (k : ∀ (v : Option Value) (I1 : Nat → Nat → Int32) (J1 : Nat → Nat → Int64), Fj I I1 → Q v (am_N I1 J1)) : am_wp X d 120 0 [.ref 0] [] (am_N I J) Q := am_wp_to (am_wp_nw nwS_ok (by decide) (z_120 hI (Q := fun _ s => ∃ (I1 : Nat → Nat → Int32) (J1 : Nat → Nat → Int64), s = am_N I1 J1) (fun r I' J' _ _ => ⟨I', J', rfl⟩))) (fun v s h => by obtain ⟨⟨I1, J1, rfl⟩, hn⟩ := h; exact k v I1 J1 (Fj.fr hI hw (fun a j q => nw_fr hn a j (fun p => q (by unfold Ns; omega))) (hb0.fr (fun q hq => nw_fr hn _ _ (by omega)))))
theorem f_121 {X : am_X} {d : Nat} {I : Nat → Nat → Int32} {J : Nat → Nat → Int64} {Q : Option Value → am_M → Prop} {x0 : Int32} (hI : Inv I) (hw : Wf I) (hb0 : Bl I) (k : ∀ (v : Option Value) (I1 : Nat → Nat → Int32) (J1 : Nat → Nat → Int64), Fj I I1 → Q v (am_N I1 J1)) : am_wp X (d + 1) 121 0 [.ref 0, .int x0] [] (am_N I J) Q := am_wp_to (am_wp_nw nwS_ok (by decide) (z_121 hI (Q := fun _ s => ∃ (I1 : Nat → Nat → Int32) (J1 : Nat → Nat → Int64), s = am_N I1 J1) (fun r I' J' _ _ => ⟨I', J', rfl⟩))) (fun v s h => by obtain ⟨⟨I1, J1, rfl⟩, hn⟩ := h; exact k v I1 J1 (Fj.fr hI hw (fun a j q => nw_fr hn a j (fun p => q (by unfold Ns; omega))) (hb0.fr (fun q hq => nw_fr hn _ _ (by omega)))))
