theorem c_28 {X : am_X} {d : Nat} {I : Nat → Nat → Int32} {J : Nat → Nat → Int64} {Q : Option Value → am_M → Prop} (k : (((I 87 1) = 0 → am_wp X (d + 5) 28 21 [.ref 87, .int 0, am_uv] [] (am_N (am_up (am_up I 87 1 1) 87 5 41) J) Q) ∧ (¬ (I 87 1) = 0 → Q none (am_N I J)))) : am_wp X (d + 5) 28 0 [.ref 87, am_uv, am_uv] [] (am_N I J) Q := s28_0 (s28_1 k0_87 (s28_4 (fun h3223 => have k := k.1 h3223; s28_8 (s28_9 (s28_10 k0_87 (Or.inr rfl) (s28_13 (s28_14 (s28_16 k0_87 (s28_19 (s28_20 rfl (k))))))))) (fun h3223 => have k := k.2 h3223; s28_7 (k))))
theorem c_28_21 {X : am_X} {d : Nat} {I : Nat → Nat → Int32} {J : Nat → Nat → Int64} {Q : Option Value → am_M → Prop} {c : Int32} {u2 : Value} (hu2 : u2.category = 1) (k : ((576 ≤ c → Q none (am_N I J)) ∧ (¬ 576 ≤ c → (((I 87 5) ≤ 0 → Q none (am_N I J)) ∧ (¬ (I 87 5) ≤ 0 → ((Inv I ∧ Wf I) ∧ ∀ (I3226 : Nat → Nat → Int32), We I I3226 c → (Inv I3226 ∧ ∀ (I3227 : Nat → Nat → Int32), t32 I3226 I3227 0 → am_wp X (d + 5) 28 50 [.ref 87, .int c, .int 0] [] (am_N I3227 (am_up J 87 6 0)) Q))))))) : am_wp X (d + 5) 28 21 [.ref 87, .int c, u2] [] (am_N I J) Q := s28_21 (s28_22 (s28_25 (fun h3224 => have k := k.1 h3224; s28_81 (k)) (fun h3224 => have k := k.2 h3224; s28_28 (s28_29 k0_87 (s28_32 (fun h3225 => have k := k.1 h3225; s28_81 (k)) (fun h3225 => have k := k.2 h3225; s28_35 (s28_36 k0_87 p0_87_0 (s28_39 (s28_40 k0_35 (Nat.le_of_ble_eq_true rfl) (w_6 k.1.1 k.1.2 (fun I3226 h1 => have k := k.2 I3226 h1; am_aft0 (s28_43 (s28_44 (s28_45 k0_87 (Nat.le_of_ble_eq_true rfl) (w_32 k.1 (fun I3227 h1 => have k := k.2 I3227 h1; am_aft0 (s28_48 (s28_49 rfl (k)))))))))))))))))))
theorem c_28_50 {X : am_X} {d : Nat} {I : Nat → Nat → Int32} {J : Nat → Nat → Int64} {Q : Option Value → am_M → Prop} {c m : Int32} (k : ((24 ≤ m → am_wp X (d + 5) 28 21 [.ref 87, .int (c + 1), .int m] [] (am_N I J) Q) ∧ (¬ 24 ≤ m → (((I 87 5) ≤ 0 → am_wp X (d + 5) 28 21 [.ref 87, .int (c + 1), .int m] [] (am_N I J) Q) ∧ (¬ (I 87 5) ≤ 0 → (p29 I J m ∧ ∀ (I3230 : Nat → Nat → Int32) (J3231 : Nat → Nat → Int64), t29 I I3230 J3231 c (Int32.toNatClampNeg m) → am_wp X (d + 5) 28 50 [.ref 87, .int c, .int (m + 1)] [] (am_N I3230 J3231) Q)))))) : am_wp X (d + 5) 28 50 [.ref 87, .int c, .int m] [] (am_N I J) Q := s28_50 (s28_51 (s28_53 (fun h3228 => have k := k.1 h3228; s28_75 rfl (s28_78 (k))) (fun h3228 => have k := k.2 h3228; s28_56 (s28_57 k0_87 (s28_60 (fun h3229 => have k := k.1 h3229; s28_75 rfl (s28_78 (k))) (fun h3229 => have k := k.2 h3229; s28_63 (s28_64 (s28_65 (s28_66 k0_87 (Nat.le_of_ble_eq_true rfl) (w_29 k.1 (fun I3230 J3231 h1 => have k := k.2 I3230 J3231 h1; am_aft0 (s28_69 rfl (s28_72 (k))))))))))))))
theorem wz.vw {I I' : Nat → Nat → Int32} (h : wz I I') : vw I I' := fun a k q => h a k (by omega) (by omega)
theorem Fm.en {I I' : Nat → Nat → Int32} (hI : Inv I) {g m : Nat} (h : Fm I I' g) (h0 : I' 87 5 ≤ 0) (hm : g ≤ m) : Fm I I' m := by
  have e := fst2_end hI (by rw [← h.1]; exact h0) m hm
  unfold Fm
  rw [e]
  refine ⟨h.1, Or.inr ?_⟩
  rcases h.2 with q | q
  · rw [h.1, q] at h0
    exact absurd h0 (by show ¬ (41 : Int32) ≤ 0; decide)
  · exact q
theorem ag2_of {I I' I1 I3 : Nat → Nat → Int32} {c : Nat} (hI : Inv I) (hs : wz I I') (h1 : We I' I1 (Int32.ofInt (c : Int))) (h3 : w89 I1 I3) : Ag2 I3 (Vc I c) := by
  have sq := hs.vw.q hI
  have hI' : Inv I' := hI.sm hs.sm
  have b1 : bk I3 = bk I := by
    rw [h3.bok]
    exact h1.1.wx.book.trans sq.1
  have bv : bk (Vc I c) = bk I := by
    unfold bk
    rw [Vc.o I c (by omega)]
  refine ⟨b1.trans bv.symm, fun r hr => ?_⟩
  rw [bv] at hr
  obtain ⟨l1, l2⟩ := hI.lb hr
  have f : ∀ k, I3 (43 + r) k = I (43 + r) k := fun k => by rw [h3 _ _ (by omega), h1.1 _ _ (by omega), hs _ _ (by omega) (by omega)]
  refine ⟨⟨by rw [f, Vc.o I c (by omega)], by rw [f, Vc.o I c (by omega)]⟩, fun ho => ?_⟩
  unfold onr at ho
  rw [Vc.o I c (by omega)] at ho
  have ho' := of_decide_eq_false ((Bool.not_eq_true' _).mp ho)
  obtain ⟨e1, e2, e3⟩ := h1.2 r l1 (by rw [hs 35 2 (by omega) (by omega)]; exact l2) (by rw [hs _ _ (by omega) (by omega)]; exact ho')
  obtain ⟨s1, s2, s3⟩ := (sq.2 r hr).2 (Int32.ofInt (c : Int))
  refine ⟨?_, ?_, ?_⟩
  · rw [h3 40 r (by omega), e1, s1]
    rfl
  · rw [h3 41 r (by omega), e2, s2]
    rfl
  · rw [h3 42 r (by omega), e3, s3]
    rfl
def f28 (I I' : Nat → Nat → Int32) : Prop := wz I I' ∧ ¬ I' 87 1 = 0 ∧ Fm I I' 13824
/-- what the class holds for known of the fewest -/
def Cw (I : Nat → Nat → Int32) : Prop := ¬ I 87 1 = 0 → Fm I I 13824
theorem w_28 {X : am_X} {d : Nat} {I : Nat → Nat → Int32} {J : Nat → Nat → Int64} {Q : Option Value → am_M → Prop} (hI : Inv I) (hw : Wf I) (hc : Cw I) (k : ∀ (I' : Nat → Nat → Int32) (J' : Nat → Nat → Int64), f28 I I' → Q none (am_N I' J')) : am_wp X (d + 5) 28 0 [.ref 87, am_uv, am_uv] [] (am_N I J) Q := by
  refine c_28 ⟨fun _ => ?_, fun q => k I J ⟨fun _ _ _ _ => rfl, q, hc q⟩⟩
  have t576 : (576 : Int32) = Int32.ofInt 576 := rfl
  have t24 : (24 : Int32) = Int32.ofInt 24 := rfl
  refine am_down (N := 576) (P := fun c => ∀ (u2 : Value) (I' : Nat → Nat → Int32) (J' : Nat → Nat → Int64), u2.category = 1 → wz I I' → ¬ I' 87 1 = 0 → Fm I I' (24 * c) → am_wp X (d + 5) 28 21 [.ref 87, .int (Int32.ofInt (c : Int)), u2] [] (am_N I' J') Q) ?_ ?_ 0 (by omega) am_uv _ J rfl (fun a j p q => ?_) ?_ ⟨?_, Or.inl rfl⟩
  · intro u2 I' J' h2 hs h1 hf
    exact c_28_21 h2 ⟨fun _ => k I' J' ⟨hs, h1, hf⟩, fun q => absurd (by decide) q⟩
  · intro c hc' ih u2 I' J' h2 hs h1 hf
    refine c_28_21 h2 ⟨fun q => absurd q (by rw [t576, oi_le (by omega) (by omega)]; omega), fun _ => ⟨fun q => k I' J' ⟨hs, h1, hf.en hI q (by omega)⟩, fun _ => ⟨⟨hI.sm hs.sm, hs.vw.wf hw⟩, fun I1 w1 => ⟨(hI.sm hs.sm).sm w1.1.wx.sm, fun I2 w2 => ?_⟩⟩⟩⟩
    have f2 : Fm I I2 (24 * c) := by
      have e : ∀ k, k ≤ 5 → I2 87 k = I' 87 k := fun k hk => (w2.1 87 k (by omega)).trans (w1.1 87 k (by omega))
      unfold Fm
      rw [e 5 (by omega), e 2 (by omega), e 3 (by omega), e 4 (by omega)]
      exact hf
    have hi1 : Inv I1 := (hI.sm hs.sm).sm w1.1.wx.sm
    refine am_down (N := 24) (P := fun b => ∀ (I3 : Nat → Nat → Int32) (J3 : Nat → Nat → Int64), w89 I1 I3 → Tm I3 J3 → Fm I I3 (24 * c + b) → am_wp X (d + 5) 28 50 [.ref 87, .int (Int32.ofInt (c : Int)), .int (Int32.ofInt (b : Int))] [] (am_N I3 J3) Q) ?_ ?_ 0 (by omega) I2 _ w2.1.w ?_ f2
    · intro I3 J3 w3 ht hf3
      refine c_28_50 ⟨fun _ => ?_, fun q => absurd (by decide) q⟩
      rw [oi_succ]
      refine ih _ I3 J3 rfl (fun a j p q => ?_) ?_ hf3
      · rw [w3 a j (by omega), w1.1 a j (by omega)]
        exact hs a j p q
      · rw [w3 87 1 (by omega), w1.1 87 1 (by omega)]
        exact h1
    · intro b hb ih' I3 J3 w3 ht hf3
      have ag := ag2_of hI hs w1 w3
      have hi3 : Inv I3 := hi1.sm w3.sm
      refine c_28_50 ⟨fun q => absurd q (by rw [t24, oi_le (by omega) (by omega)]; omega), fun _ => ⟨fun q => ?_, fun _ => ⟨⟨⟨hi3, b, hb, rfl⟩, ht⟩, fun I4 J4 h4 => ?_⟩⟩⟩
      · rw [oi_succ]
        refine ih _ I3 J3 rfl (fun a j p r => ?_) ?_ (hf3.en hI q (by omega))
        · rw [w3 a j (by omega), w1.1 a j (by omega)]
          exact hs a j p r
        · rw [w3 87 1 (by omega), w1.1 87 1 (by omega)]
          exact h1
      · rw [oi_succ]
        obtain ⟨w4, t4, y4, n4⟩ := h4
        rw [oi_cln (by omega)] at y4 n4
        obtain ⟨a1, a2, a3⟩ := ag.g (Vc.inv hI c) b
        have e1 : gNv I3 b = fN I (24 * c + b) := by
          unfold fN
          rw [show (24 * c + b) / 24 = c by omega, show (24 * c + b) % 24 = b by omega]
          exact a1
        have e2 : gH I3 b = fH I (24 * c + b) := by
          unfold fH
          rw [show (24 * c + b) / 24 = c by omega, show (24 * c + b) % 24 = b by omega]
          exact a2
        have e3 : gTm I3 b = fTi I (24 * c + b) := by
          unfold fTi
          rw [show (24 * c + b) / 24 = c by omega, show (24 * c + b) % 24 = b by omega]
          exact a3
        rw [e1, e2, hf3.1] at y4 n4
        rw [e3] at y4
        refine ih' I4 J4 (w3.tr w4) t4 ?_
        have st : fst2 I (24 * c + (b + 1)) = if Int32.ofInt (fN I (24 * c + b) : Int) < (fst2 I (24 * c + b)).1 ∧ Int32.ofInt (fH I (24 * c + b) : Int) < (fst2 I (24 * c + b)).1 then (Int32.ofInt (fH I (24 * c + b) : Int), 24 * c + b, fTi I (24 * c + b)) else fst2 I (24 * c + b) := rfl
        unfold Fm
        by_cases q : Int32.ofInt (fN I (24 * c + b) : Int) < (fst2 I (24 * c + b)).1 ∧ Int32.ofInt (fH I (24 * c + b) : Int) < (fst2 I (24 * c + b)).1
        · obtain ⟨v5, v2, v3, v4⟩ := y4 q
          rw [if_pos q] at st
          rw [st, v5, v2, v3, v4]
          refine ⟨rfl, Or.inr ⟨?_, ?_, rfl⟩⟩
          · show Int32.ofInt (c : Int) = Int32.ofInt (((24 * c + b) / 24 : Nat) : Int)
            rw [show (24 * c + b) / 24 = c by omega]
          · show Int32.ofInt (b : Int) = Int32.ofInt (((24 * c + b) % 24 : Nat) : Int)
            rw [show (24 * c + b) % 24 = b by omega]
        · obtain ⟨v5, v2, v3, v4⟩ := n4 q
          rw [if_neg q] at st
          rw [st, v5, v2, v3, v4]
          refine ⟨rfl, Or.inr ?_⟩
          rcases hf3.2 with z | z
          · rw [z] at q
            exact absurd (fst2_1 hI) q
          · exact z
    · unfold Tm
      have e6 : am_up J' 87 6 (0 : Int64) 87 6 = 0 := by rw [am_upv, if_pos (by omega)]
      rw [e6, w2.1.w.tf]
      exact w2.2
  · rw [am_upv, if_neg (by omega), am_upv, if_neg (by omega)]
  · rw [am_upv, if_neg (by omega), am_upv, if_pos (by omega)]
    decide
  · rw [am_upv, if_pos (by omega)]
    rfl
