/-! NEXT: guesses and cells, how many of each WAY -/
def kl (x y v : Int32) (g : Nat) : Nat := if g % 24 % 2 = 0 ∧ ¬ (240 * Int32.ofInt ((g % 24 / 2 + 1 : Nat) : Int)) / (12 + v_farOf (dX x (g / 24)) (dY y (g / 24)) (Int32.ofInt ((g / 24 % 4 : Nat) : Int))) < v then Int32.toNatClampNeg (cwy x y (g / 24)) else 8
def Ng (I : Nat → Nat → Int32) (x y v : Int32) (w : Nat) : Nat → Nat
  | 0 => 0
  | M + 1 => Ng I x y v w M + (if gfn I M = true ∧ kl x y v M = w then 1 else 0)
theorem kl_9 (x y v : Int32) (g : Nat) : kl x y v g < 9 := by
  obtain ⟨W, W1, W2, eW⟩ := way8 (dX x (g / 24)) (dY y (g / 24))
  unfold kl cwy
  split
  · rw [eW, oi_cl (by omega)]
    omega
  · omega
theorem far11 {x y : Int32} (hx : gR x 0 11) (hy : gR y 0 11) {c : Nat} (hc : c < 576) : gR (v_farOf (dX x c) (dY y c) (Int32.ofInt ((c % 4 : Nat) : Int))) 0 323 :=
  farR hx ⟨((c / 48 : Nat) : Int), by omega, by omega, rfl⟩ hy ⟨((c / 4 % 12 : Nat) : Int), by omega, by omega, rfl⟩ ⟨((c % 4 : Nat) : Int), by omega, by omega, rfl⟩
theorem kl_bit {I : Nat → Nat → Int32} {x y v : Int32} (hx : gR x 0 11) (hy : gR y 0 11) (hv : gR v 1 240) {c i w : Nat} (hc : c < 576) (hi : i < 24) (hw : w < 8) : (tb (fbit I c) i = true ∧ kl x y v (24 * c + i) = w) ↔ (cwy x y c = Int32.ofInt (w : Int) ∧ tb (cdb (fbit I) x y v c) i = true) := by
  obtain ⟨F, F1, F2, eF⟩ := far11 hx hy hc
  obtain ⟨V, V1, V2, eV⟩ := hv
  obtain ⟨W, W1, W2, eW⟩ := way8 (dX x c) (dY y c)
  unfold kl cdb
  rw [show (24 * c + i) / 24 = c by omega, show (24 * c + i) % 24 = i by omega, tb_and, tb_and, tb_lev, eF, eV, strong_force (by omega) (by omega) hi, Bool.and_eq_true, Bool.and_eq_true, decide_eq_true_eq, decide_eq_true_eq]
  have ec : cwy x y c = Int32.ofInt W := eW
  rw [ec, oi_cl (by omega)]
  refine ⟨fun ⟨h1, h2⟩ => ?_, fun ⟨h1, ⟨h2, h3⟩, h4⟩ => ⟨h2, ?_⟩⟩
  · by_cases h : i % 2 = 0 ∧ ¬ (240 * Int32.ofInt ((i / 2 + 1 : Nat) : Int)) / (12 + Int32.ofInt F) < Int32.ofInt V
    · rw [if_pos h] at h2
      exact ⟨congrArg Int32.ofInt (by omega), ⟨h1, hi, h.1⟩, Int32.not_lt.mp h.2⟩
    · rw [if_neg h] at h2
      omega
  · rw [if_pos ⟨h3.2, Int32.not_lt.mpr h4⟩]
    have := (oi_eq (b := (w : Int)) (by omega) (by omega)).mp h1
    omega
theorem Ng_cell {I : Nat → Nat → Int32} (hI : Inv I) (hw : Wf I) {x y v : Int32} (hx : gR x 0 11) (hy : gR y 0 11) (hv : gR v 1 240) {c w : Nat} (hc : c < 576) (h8 : w < 8) (h0 : Ng I x y v w (24 * c) = Kw (fbit I) x y v w c) : ∀ i, i ≤ 24 → Ng I x y v w (24 * c + i) = Kw (fbit I) x y v w c + (if cwy x y c = Int32.ofInt (w : Int) then pcn (cdb (fbit I) x y v c) i else 0) := by
  intro i
  induction i with
  | zero =>
    intro _
    rw [Nat.add_zero, h0]
    split <;> rfl
  | succ i ih =>
    intro hi
    show Ng I x y v w (24 * c + i) + (if gfn I (24 * c + i) = true ∧ kl x y v (24 * c + i) = w then 1 else 0) = _
    rw [ih (by omega), ← bit_fn hI hw hc (show i < 24 by omega), Nat.add_assoc]
    congr 1
    have kb := kl_bit (I := I) hx hy hv hc (show i < 24 by omega) h8
    by_cases h : cwy x y c = Int32.ofInt (w : Int)
    · rw [if_pos h, if_pos h]
      show _ = pcn (cdb (fbit I) x y v c) i + (if tb (cdb (fbit I) x y v c) i = true then 1 else 0)
      congr 1
      by_cases t : tb (cdb (fbit I) x y v c) i = true
      · rw [if_pos (kb.mpr ⟨h, t⟩), if_pos t]
      · rw [if_neg (fun q => t (kb.mp q).2), if_neg t]
    · rw [if_neg h, if_neg h, if_neg (fun q => h (kb.mp q).1)]
theorem Ng_Kw {I : Nat → Nat → Int32} (hI : Inv I) (hw : Wf I) {x y v : Int32} (hx : gR x 0 11) (hy : gR y 0 11) (hv : gR v 1 240) {w : Nat} (h8 : w < 8) : ∀ c, c ≤ 576 → Ng I x y v w (24 * c) = Kw (fbit I) x y v w c := by
  intro c
  induction c with
  | zero => intro _; rfl
  | succ c ih =>
    intro hc
    exact Ng_cell hI hw hx hy hv (by omega) h8 (ih (by omega)) 24 (Nat.le_refl _)
theorem Ng_le (I : Nat → Nat → Int32) (x y v : Int32) (w : Nat) : ∀ M, Ng I x y v w M ≤ M := by
  intro M
  induction M with
  | zero => exact Nat.le_refl 0
  | succ M ih =>
    show Ng I x y v w M + (if gfn I M = true ∧ kl x y v M = w then 1 else 0) ≤ M + 1
    split <;> omega
theorem smD_add (A B : Nat → Nat) : ∀ n, smD (fun w => A w + B w) n = smD A n + smD B n := by
  intro n
  induction n with
  | zero => rfl
  | succ n ih =>
    show smD (fun w => A w + B w) n + (A n + B n) = (smD A n + A n) + (smD B n + B n)
    omega
theorem smD_one (b : Bool) (k : Nat) : ∀ n, smD (fun w => if b = true ∧ k = w then 1 else 0) n = if b = true ∧ k < n then 1 else 0 := by
  intro n
  induction n with
  | zero => exact (if_neg (fun q => absurd q.2 (by omega))).symm
  | succ n ih =>
    show smD (fun w => if b = true ∧ k = w then 1 else 0) n + (if b = true ∧ k = n then 1 else 0) = _
    rw [ih]
    cases b with
    | false => rfl
    | true =>
      by_cases h1 : k < n
      · rw [if_pos ⟨rfl, h1⟩, if_neg (fun q => absurd q.2 (by omega)), if_pos ⟨rfl, by omega⟩]
      · by_cases h2 : k = n
        · rw [if_neg (fun q => h1 q.2), if_pos ⟨rfl, h2⟩, if_pos ⟨rfl, by omega⟩]
        · rw [if_neg (fun q => h1 q.2), if_neg (fun q => h2 q.2), if_neg (fun q => absurd q.2 (by omega))]
theorem Ng_sum (I : Nat → Nat → Int32) (x y v : Int32) : ∀ M, smD (fun w => Ng I x y v w M) 9 = cgn I M := by
  intro M
  induction M with
  | zero => rfl
  | succ M ih =>
    show smD (fun w => Ng I x y v w M + (if gfn I M = true ∧ kl x y v M = w then 1 else 0)) 9 = cgn I M + (if gfn I M = true then 1 else 0)
    rw [smD_add, ih, smD_one]
    congr 1
    have := kl_9 x y v M
    by_cases h : gfn I M = true
    · rw [if_pos ⟨h, this⟩, if_pos h]
    · rw [if_neg (fun q => h q.1), if_neg h]
theorem mxD_cg {A B : Nat → Nat} : ∀ n, (∀ w, w < n → A w = B w) → mxD A n = mxD B n := by
  intro n
  induction n with
  | zero => intro _; rfl
  | succ n ih =>
    intro h
    show am_max (mxD A n) (Int32.ofInt (A n : Int)) = am_max (mxD B n) (Int32.ofInt (B n : Int))
    rw [ih (fun w hw => h w (by omega)), h n (by omega)]
theorem smD_cg {A B : Nat → Nat} : ∀ n, (∀ w, w < n → A w = B w) → smD A n = smD B n := by
  intro n
  induction n with
  | zero => intro _; rfl
  | succ n ih =>
    intro h
    show smD A n + A n = smD B n + B n
    rw [ih (fun w hw => h w (by omega)), h n (by omega)]
theorem mxD_le {A : Nat → Nat} {K : Nat} (hK : K < 2147483648) : ∀ n, (∀ w, w < n → A w ≤ K) → mxD A n ≤ Int32.ofInt (K : Int) := by
  intro n
  induction n with
  | zero => intro _; exact (oi_le (a := 0) (by omega) (by omega)).mpr (by omega)
  | succ n ih =>
    intro h
    have h1 := ih (fun w hw => h w (by omega))
    have h2 := h n (by omega)
    show am_max (mxD A n) (Int32.ofInt (A n : Int)) ≤ _
    unfold am_max
    split
    · exact (oi_le (by omega) (by omega)).mpr (by omega)
    · exact h1
def Rw (I : Nat → Nat → Int32) (x y v : Int32) : Int32 := mxD (fun w => Ng I x y v w 13824) 9
theorem Rw_le (I : Nat → Nat → Int32) (x y v : Int32) : Rw I x y v ≤ 13824 := mxD_le (K := 13824) (by omega) 9 (fun w _ => Ng_le I x y v w 13824)
theorem Rw_eq {I : Nat → Nat → Int32} (hI : Inv I) (hw : Wf I) {x y v : Int32} (hx : gR x 0 11) (hy : gR y 0 11) (hv : gR v 1 240) : Wst (fbit I) (Int32.ofInt (fcn I 576 : Int)) x y v = Rw I x y v := by
  have e : ∀ w, w < 8 → Kw (fbit I) x y v w 576 = Ng I x y v w 13824 := fun w h8 => (Ng_Kw hI hw hx hy hv h8 576 (Nat.le_refl _)).symm
  have s := Ng_sum I x y v 13824
  have c : cgn I 13824 = fcn I 576 := cgn_fcn hI hw 576 (Nat.le_refl _)
  have s9 : smD (fun w => Ng I x y v w 13824) 9 = smD (fun w => Ng I x y v w 13824) 8 + Ng I x y v 8 13824 := rfl
  unfold Wst
  rw [mxD_cg 8 e, smD_cg 8 e, oi_sub]
  show _ = am_max (mxD (fun w => Ng I x y v w 13824) 8) (Int32.ofInt (Ng I x y v 8 13824 : Int))
  congr 2
  omega
