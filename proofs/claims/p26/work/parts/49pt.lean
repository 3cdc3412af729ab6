theorem c_38 {X : am_X} {d : Nat} {I : Nat → Nat → Int32} {J : Nat → Nat → Int64} {Q : Option Value → am_M → Prop} {x0 : Int32} {x1 : Int32} {x2 : Int32} (k : (am_ix x0 6 ∧ (am_ix x0 6 ∧ (am_ix x0 6 ∧ (am_ix x0 6 ∧ Q none (am_N (am_up (am_up I 85 (Int32.toNatClampNeg x0) (am_min (I 85 (Int32.toNatClampNeg x0)) x1)) 86 (Int32.toNatClampNeg x0) (am_max (I 86 (Int32.toNatClampNeg x0)) x2)) J)))))) : am_wp X (d + 1) 38 0 [.ref 83, .int x0, .int x1, .int x2] [] (am_N I J) Q := s38_0 (s38_1 k0_83 p0_83_2 (s38_4 (s38_5 (s38_6 k0_83 p0_83_2 (s38_9 (have b3160 := k.1; have k := k.2; s38_10 k0_85 b3160 (s38_11 (s38_12 (Nat.le_of_ble_eq_true rfl) (have b3161 := k.1; have k := k.2; s38_15 k0_85 b3161 (s38_16 (s38_17 k0_83 p0_83_3 (s38_20 (s38_21 (s38_22 k0_83 p0_83_3 (s38_25 (have b3162 := k.1; have k := k.2; s38_26 k0_86 b3162 (s38_27 (s38_28 (Nat.le_of_ble_eq_true rfl) (have b3163 := k.1; have k := k.2; s38_31 k0_86 b3163 (s38_32 (k)))))))))))))))))))))
/-! THE CLASS SEEKS WHAT FITS -/
def w38 (I : Nat → Nat → Int32) (w l h : Int32) : Nat → Nat → Int32 := am_up (am_up I 85 (Int32.toNatClampNeg w) (am_min (I 85 (Int32.toNatClampNeg w)) l)) 86 (Int32.toNatClampNeg w) (am_max (I 86 (Int32.toNatClampNeg w)) h)
theorem w_38 {X : am_X} {d : Nat} {I : Nat → Nat → Int32} {J : Nat → Nat → Int64} {Q : Option Value → am_M → Prop} {x0 x1 x2 : Int32} (hx : am_ix x0 6) (k : Q none (am_N (w38 I x0 x1 x2) J)) : am_wp X (d + 1) 38 0 [.ref 83, .int x0, .int x1, .int x2] [] (am_N I J) Q := c_38 ⟨hx, hx, hx, hx, k⟩
theorem w38_v (I : Nat → Nat → Int32) (w : Nat) (hw : w < 6) (l h : Int32) (a k : Nat) : w38 I (Int32.ofInt (w : Int)) l h a k = if a = 85 ∧ k = w then am_min (I 85 w) l else if a = 86 ∧ k = w then am_max (I 86 w) h else I a k := by
  unfold w38
  rw [oi_cln (by omega), am_upv, am_upv]
  by_cases h1 : a = 86 ∧ k = w
  · rw [if_pos h1, if_neg (by omega), if_pos h1]
  · rw [if_neg h1, if_neg h1]
theorem c_37 {X : am_X} {d : Nat} {I : Nat → Nat → Int32} {J : Nat → Nat → Int64} {Q : Option Value → am_M → Prop} {x0 : Int32} (k : (am_ix x0 576 ∧ (am_ix x0 576 ∧ am_wp X (d + 2) 37 26 [.ref 83, .int x0, .int (v_ntz (I 84 (Int32.toNatClampNeg x0))), .int (31 - (v_nlz (I 84 (Int32.toNatClampNeg x0)))), .int 0] [] (am_N I J) Q))) : am_wp X (d + 2) 37 0 [.ref 83, .int x0, am_uv, am_uv, am_uv] [] (am_N I J) Q := s37_0 (s37_1 k0_83 p0_83_1 (s37_4 (have b3164 := k.1; have k := k.2; s37_5 k0_84 b3164 (s37_6 (Nat.le_of_ble_eq_true rfl) (w_ntz (am_aft (s37_9 rfl (s37_10 (s37_12 (s37_13 k0_83 p0_83_1 (s37_16 (have b3165 := k.1; have k := k.2; s37_17 k0_84 b3165 (s37_18 (Nat.le_of_ble_eq_true rfl) (w_nlz (am_aft (s37_21 (s37_22 rfl (s37_23 (s37_24 rfl (k))))))))))))))))))))
theorem c_37_26 {X : am_X} {d : Nat} {I : Nat → Nat → Int32} {J : Nat → Nat → Int64} {Q : Option Value → am_M → Prop} {x0 lo hi m : Int32} (k : ((3 < m → (am_ix x0 576 ∧ ((((I 84 (Int32.toNatClampNeg x0)) &&& 5592405) = 0 → (am_ix x0 576 ∧ ((((I 84 (Int32.toNatClampNeg x0)) &&& 11184810) = 0 → (am_ix 4 6 ∧ (am_ix 5 6 ∧ Q none (am_N (w38 (w38 I 4 1 0) 5 ((w38 I 4 1 0) 35 9) ((w38 I 4 1 0) 35 10)) J)))) ∧ (¬ ((I 84 (Int32.toNatClampNeg x0)) &&& 11184810) = 0 → (am_ix 4 6 ∧ (am_ix 5 6 ∧ Q none (am_N (w38 (w38 I 4 1 1) 5 ((w38 I 4 1 1) 35 9) ((w38 I 4 1 1) 35 10)) J))))))) ∧ (¬ ((I 84 (Int32.toNatClampNeg x0)) &&& 5592405) = 0 → (am_ix x0 576 ∧ ((((I 84 (Int32.toNatClampNeg x0)) &&& 11184810) = 0 → (am_ix 4 6 ∧ (am_ix 5 6 ∧ Q none (am_N (w38 (w38 I 4 0 0) 5 ((w38 I 4 0 0) 35 9) ((w38 I 4 0 0) 35 10)) J)))) ∧ (¬ ((I 84 (Int32.toNatClampNeg x0)) &&& 11184810) = 0 → (am_ix 4 6 ∧ (am_ix 5 6 ∧ Q none (am_N (w38 (w38 I 4 0 1) 5 ((w38 I 4 0 1) 35 9) ((w38 I 4 0 1) 35 10)) J)))))))))) ∧ (¬ 3 < m → (am_ix m 6 ∧ am_wp X (d + 2) 37 26 [.ref 83, .int x0, .int lo, .int hi, .int (m + 1)] [] (am_N (w38 I m (v_partOfGuess x0 lo m) (v_partOfGuess x0 hi m)) J) Q)))) : am_wp X (d + 2) 37 26 [.ref 83, .int x0, .int lo, .int hi, .int m] [] (am_N I J) Q := s37_26 (s37_28 (s37_29 (fun h3166 => have k := k.1 h3166; s37_58 (s37_59 (s37_60 (s37_61 k0_83 p0_83_1 (s37_64 (have b3167 := k.1; have k := k.2; s37_65 k0_84 b3167 (s37_66 (s37_68 (s37_69 (fun h3168 => have k := k.1 h3168; s37_76 (s37_77 (s37_78 k0_83 p0_83_1 (s37_81 (have b3169 := k.1; have k := k.2; s37_82 k0_84 b3169 (s37_83 (s37_85 (s37_86 (fun h3170 => have k := k.1 h3170; s37_93 (s37_94 k0_83 (Nat.le_of_ble_eq_true rfl) (w_38 k.1 (have k := k.2; am_aft0 (s37_97 (s37_98 (s37_99 (s37_100 k0_83 p0_83_0 (s37_103 k0_35 (s37_106 (s37_107 k0_83 p0_83_0 (s37_110 k0_35 (s37_113 k0_83 (Nat.le_of_ble_eq_true rfl) (w_38 k.1 (have k := k.2; am_aft0 (s37_116 (k))))))))))))))))) (fun h3170 => have k := k.2 h3170; s37_89 (s37_90 (s37_94 k0_83 (Nat.le_of_ble_eq_true rfl) (w_38 k.1 (have k := k.2; am_aft0 (s37_97 (s37_98 (s37_99 (s37_100 k0_83 p0_83_0 (s37_103 k0_35 (s37_106 (s37_107 k0_83 p0_83_0 (s37_110 k0_35 (s37_113 k0_83 (Nat.le_of_ble_eq_true rfl) (w_38 k.1 (have k := k.2; am_aft0 (s37_116 (k)))))))))))))))))))))))))) (fun h3168 => have k := k.2 h3168; s37_72 (s37_73 (s37_77 (s37_78 k0_83 p0_83_1 (s37_81 (have b3171 := k.1; have k := k.2; s37_82 k0_84 b3171 (s37_83 (s37_85 (s37_86 (fun h3172 => have k := k.1 h3172; s37_93 (s37_94 k0_83 (Nat.le_of_ble_eq_true rfl) (w_38 k.1 (have k := k.2; am_aft0 (s37_97 (s37_98 (s37_99 (s37_100 k0_83 p0_83_0 (s37_103 k0_35 (s37_106 (s37_107 k0_83 p0_83_0 (s37_110 k0_35 (s37_113 k0_83 (Nat.le_of_ble_eq_true rfl) (w_38 k.1 (have k := k.2; am_aft0 (s37_116 (k))))))))))))))))) (fun h3172 => have k := k.2 h3172; s37_89 (s37_90 (s37_94 k0_83 (Nat.le_of_ble_eq_true rfl) (w_38 k.1 (have k := k.2; am_aft0 (s37_97 (s37_98 (s37_99 (s37_100 k0_83 p0_83_0 (s37_103 k0_35 (s37_106 (s37_107 k0_83 p0_83_0 (s37_110 k0_35 (s37_113 k0_83 (Nat.le_of_ble_eq_true rfl) (w_38 k.1 (have k := k.2; am_aft0 (s37_116 (k)))))))))))))))))))))))))))))))))))) (fun h3166 => have k := k.2 h3166; s37_32 (s37_33 (s37_35 (s37_36 (s37_37 (s37_39 (Nat.le_of_ble_eq_true rfl) (w_partOfGuess (am_aft (s37_42 (s37_43 (s37_44 (s37_46 (Nat.le_of_ble_eq_true rfl) (w_partOfGuess (am_aft (s37_49 k0_83 (Nat.le_of_ble_eq_true rfl) (w_38 k.1 (have k := k.2; am_aft0 (s37_52 rfl (s37_55 (k))))))))))))))))))))))
/-- a cell's part in the spans -/
def s_lo (I : Nat → Nat → Int32) (c : Int32) (b : Int32) (w : Nat) : Int32 := if w < 4 then v_partOfGuess c (v_ntz b) (Int32.ofInt (w : Int)) else if w = 4 then (if b &&& 5592405 = 0 then 1 else 0) else I 35 9
def s_hi (I : Nat → Nat → Int32) (c : Int32) (b : Int32) (w : Nat) : Int32 := if w < 4 then v_partOfGuess c (31 - v_nlz b) (Int32.ofInt (w : Int)) else if w = 4 then (if b &&& 11184810 = 0 then 0 else 1) else I 35 10
def w37 (I I' : Nat → Nat → Int32) (c : Int32) : Prop := (∀ a k, ¬ a = 85 → ¬ a = 86 → I' a k = I a k) ∧ ∀ w, w < 6 → I' 85 w = am_min (I 85 w) (s_lo I c (I 84 (Int32.toNatClampNeg c)) w) ∧ I' 86 w = am_max (I 86 w) (s_hi I c (I 84 (Int32.toNatClampNeg c)) w)
theorem w_37 {X : am_X} {d : Nat} {I : Nat → Nat → Int32} {J : Nat → Nat → Int64} {Q : Option Value → am_M → Prop} {x0 : Int32} (hx : am_ix x0 576) (k : ∀ I' : Nat → Nat → Int32, w37 I I' x0 → Q none (am_N I' J)) : am_wp X (d + 2) 37 0 [.ref 83, .int x0, am_uv, am_uv, am_uv] [] (am_N I J) Q := by
  refine c_37 ⟨hx, hx, ?_⟩
  generalize hb : I 84 (Int32.toNatClampNeg x0) = b
  refine am_down (N := 4) (P := fun m => ∀ I' : Nat → Nat → Int32, (∀ a k, ¬ a = 85 → ¬ a = 86 → I' a k = I a k) → (∀ w, w < m → I' 85 w = am_min (I 85 w) (s_lo I x0 b w) ∧ I' 86 w = am_max (I 86 w) (s_hi I x0 b w)) → (∀ w, m ≤ w → I' 85 w = I 85 w ∧ I' 86 w = I 86 w) → am_wp X (d + 2) 37 26 [.ref 83, .int x0, .int (v_ntz b), .int (31 - v_nlz b), .int (Int32.ofInt (m : Int))] [] (am_N I' J) Q) ?_ ?_ 0 (by omega) I (fun _ _ _ _ => rfl) (fun w hw => absurd hw (by omega)) (fun _ _ => ⟨rfl, rfl⟩)
  · intro I' hf h1 h2
    have fin : ∀ l h : Int32, l = s_lo I x0 b 4 → h = s_hi I x0 b 4 → Q none (am_N (w38 (w38 I' 4 l h) 5 ((w38 I' 4 l h) 35 9) ((w38 I' 4 l h) 35 10)) J) := by
      intro l h el eh
      have v4 := fun a j => w38_v I' 4 (by omega) l h a j
      have v5 := fun x y a j => w38_v (w38 I' (Int32.ofInt ((4 : Nat) : Int)) l h) 5 (by omega) x y a j
      have q9 : w38 I' 4 l h 35 9 = I 35 9 := (v4 35 9).trans (by rw [if_neg (by omega), if_neg (by omega), hf 35 9 (by omega) (by omega)])
      have q10 : w38 I' 4 l h 35 10 = I 35 10 := (v4 35 10).trans (by rw [if_neg (by omega), if_neg (by omega), hf 35 10 (by omega) (by omega)])
      rw [q9, q10]
      refine k _ ⟨fun a j p q => ?_, fun w hw => ?_⟩
      · refine (v5 _ _ a j).trans ?_
        rw [if_neg (by omega), if_neg (by omega), v4, if_neg (by omega), if_neg (by omega)]
        exact hf a j p q
      · rw [hb]
        have e85 := (v5 (I 35 9) (I 35 10) 85 w)
        have e86 := (v5 (I 35 9) (I 35 10) 86 w)
        refine ⟨e85.trans ?_, e86.trans ?_⟩
        · by_cases w5 : w = 5
          · subst w5
            rw [if_pos ⟨rfl, rfl⟩, v4, if_neg (by omega), if_neg (by omega), (h2 5 (by omega)).1]
            rfl
          · rw [if_neg (by omega), if_neg (by omega), v4]
            by_cases w4 : w = 4
            · subst w4
              rw [if_pos ⟨rfl, rfl⟩, (h2 4 (by omega)).1, el]
            · rw [if_neg (by omega), if_neg (by omega)]
              exact (h1 w (by omega)).1
        · by_cases w5 : w = 5
          · subst w5
            rw [if_neg (by omega), if_pos ⟨rfl, rfl⟩, v4, if_neg (by omega), if_neg (by omega), (h2 5 (by omega)).2]
            rfl
          · rw [if_neg (by omega), if_neg (by omega), v4]
            by_cases w4 : w = 4
            · subst w4
              rw [if_neg (by omega), if_pos ⟨rfl, rfl⟩, (h2 4 (by omega)).2, eh]
            · rw [if_neg (by omega), if_neg (by omega)]
              exact (h1 w (by omega)).2
    have e84 : I' 84 (Int32.toNatClampNeg x0) = b := (hf 84 _ (by omega) (by omega)).trans hb
    have i4 : am_ix 4 6 := oi_ix (a := 4) (by decide) (by decide) (by decide)
    have i5 : am_ix 5 6 := oi_ix (a := 5) (by decide) (by decide) (by decide)
    have l4 : s_lo I x0 b 4 = if b &&& 5592405 = 0 then 1 else 0 := rfl
    have h4 : s_hi I x0 b 4 = if b &&& 11184810 = 0 then 0 else 1 := rfl
    refine c_37_26 ⟨fun _ => ?_, fun q => absurd (by decide) q⟩
    rw [e84]
    refine ⟨hx, fun q => ⟨hx, fun p => ⟨i4, i5, fin 1 0 ?_ ?_⟩, fun p => ⟨i4, i5, fin 1 1 ?_ ?_⟩⟩, fun q => ⟨hx, fun p => ⟨i4, i5, fin 0 0 ?_ ?_⟩, fun p => ⟨i4, i5, fin 0 1 ?_ ?_⟩⟩⟩
    · rw [l4, if_pos q]
    · rw [h4, if_pos p]
    · rw [l4, if_pos q]
    · rw [h4, if_neg p]
    · rw [l4, if_neg q]
    · rw [h4, if_pos p]
    · rw [l4, if_neg q]
    · rw [h4, if_neg p]
  · intro m hm ih I' hf h1 h2
    have ix : am_ix (Int32.ofInt (m : Int)) 6 := oi_ix (by omega) (by omega) (by omega)
    refine c_37_26 ⟨fun q => absurd q (by rw [show (3 : Int32) = Int32.ofInt 3 from rfl, oi_lt (by omega) (by omega)]; omega), fun _ => ⟨ix, ?_⟩⟩
    rw [oi_succ]
    have v := fun a j => w38_v I' m (by omega) (v_partOfGuess x0 (v_ntz b) (Int32.ofInt (m : Int))) (v_partOfGuess x0 (31 - v_nlz b) (Int32.ofInt (m : Int))) a j
    refine ih _ (fun a j p q => ?_) (fun w hw => ?_) (fun w hw => ?_)
    · rw [v, if_neg (by omega), if_neg (by omega)]
      exact hf a j p q
    · by_cases e : w = m
      · subst e
        have l4 : s_lo I x0 b w = v_partOfGuess x0 (v_ntz b) (Int32.ofInt (w : Int)) := if_pos (by omega)
        have h4 : s_hi I x0 b w = v_partOfGuess x0 (31 - v_nlz b) (Int32.ofInt (w : Int)) := if_pos (by omega)
        refine ⟨?_, ?_⟩
        · rw [v, if_pos ⟨rfl, rfl⟩, (h2 w (by omega)).1, l4]
        · rw [v, if_neg (by omega), if_pos ⟨rfl, rfl⟩, (h2 w (by omega)).2, h4]
      · refine ⟨?_, ?_⟩
        · rw [v, if_neg (by omega), if_neg (by omega)]
          exact (h1 w (by omega)).1
        · rw [v, if_neg (by omega), if_neg (by omega)]
          exact (h1 w (by omega)).2
    · refine ⟨?_, ?_⟩
      · rw [v, if_neg (by omega), if_neg (by omega)]
        exact (h2 w (by omega)).1
      · rw [v, if_neg (by omega), if_neg (by omega)]
        exact (h2 w (by omega)).2
