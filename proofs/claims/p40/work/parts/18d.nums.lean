/-! NUMBERS: ints as whole numbers, loops -/
theorem oi_le {a b : Int} (ha : -2147483648 ≤ a ∧ a < 2147483648) (hb : -2147483648 ≤ b ∧ b < 2147483648) : Int32.ofInt a ≤ Int32.ofInt b ↔ a ≤ b := by
  rw [Int32.le_iff_toInt_le, Int32.toInt_ofInt_of_le (by omega) (by omega), Int32.toInt_ofInt_of_le (by omega) (by omega)]
theorem oi_lt {a b : Int} (ha : -2147483648 ≤ a ∧ a < 2147483648) (hb : -2147483648 ≤ b ∧ b < 2147483648) : Int32.ofInt a < Int32.ofInt b ↔ a < b := by
  rw [Int32.lt_iff_toInt_lt, Int32.toInt_ofInt_of_le (by omega) (by omega), Int32.toInt_ofInt_of_le (by omega) (by omega)]
theorem oi_eq {a b : Int} (ha : -2147483648 ≤ a ∧ a < 2147483648) (hb : -2147483648 ≤ b ∧ b < 2147483648) : Int32.ofInt a = Int32.ofInt b ↔ a = b := by
  rw [← Int32.toInt_inj, Int32.toInt_ofInt_of_le (by omega) (by omega), Int32.toInt_ofInt_of_le (by omega) (by omega)]
theorem oi_cl {a : Int} (ha : -2147483648 ≤ a ∧ a < 2147483648) : (Int32.ofInt a).toNatClampNeg = a.toNat := Int32.toNatClampNeg_ofInt_of_le (by omega) (by omega)
theorem oi_cln {a : Nat} (ha : a < 2147483648) : (Int32.ofInt (a : Int)).toNatClampNeg = a := by
  rw [oi_cl (by omega), Int.toNat_natCast]
theorem oi_to {a : Int} (ha : -2147483648 ≤ a ∧ a < 2147483648) : (Int32.ofInt a).toInt = a := Int32.toInt_ofInt_of_le (by omega) (by omega)
theorem oi_ix {a : Int} {n : Nat} (h0 : 0 ≤ a) (h1 : a < n) (hn : a < 2147483648) : am_ix (Int32.ofInt a) n := by
  intro h
  rcases h with h | h
  · have : Int32.ofInt a < Int32.ofInt 0 := h
    rw [oi_lt (by omega) (by omega)] at this
    omega
  · rw [oi_cl (by omega)] at h
    omega
theorem oi_div {a b : Int} (h0 : 0 ≤ a) (h1 : a < 2147483648) (hb : 0 < b) (hb1 : b < 2147483648) : Int32.ofInt a / Int32.ofInt b = Int32.ofInt (a / b) := by
  rw [← Int32.ofInt_tdiv (by show (-2147483648 : Int) ≤ a; omega) (by show a ≤ (2147483647 : Int); omega) (by show (-2147483648 : Int) ≤ b; omega) (by show b ≤ (2147483647 : Int); omega), Int.tdiv_eq_ediv_of_nonneg h0]
theorem oi_rem {a b : Int} (h0 : 0 ≤ a) (h1 : a < 2147483648) (hb : 0 < b) (hb1 : b < 2147483648) : am_rem (Int32.ofInt a) (Int32.ofInt b) = Int32.ofInt (a % b) := by
  unfold am_rem
  rw [oi_div h0 h1 hb hb1, ← Int32.ofInt_mul, ← Int32.ofInt_sub]
  congr 1
  have := Int.emod_add_mul_ediv a b
  rw [Int.mul_comm] at this
  omega
theorem oi_add (a b : Int) : Int32.ofInt a + Int32.ofInt b = Int32.ofInt (a + b) := (Int32.ofInt_add a b).symm
theorem oi_sub (a b : Int) : Int32.ofInt a - Int32.ofInt b = Int32.ofInt (a - b) := (Int32.ofInt_sub a b).symm
theorem oi_mul (a b : Int) : Int32.ofInt a * Int32.ofInt b = Int32.ofInt (a * b) := (Int32.ofInt_mul a b).symm
theorem oi_nat (n : Nat) : Int32.ofNat n = Int32.ofInt n := Int32.ofInt_eq_ofNat.symm
theorem oi_of (x : Int32) : ∃ z : Int, x = Int32.ofInt z ∧ -2147483648 ≤ z ∧ z < 2147483648 := ⟨x.toInt, (Int32.ofInt_toInt x).symm, by have := x.le_toInt; omega, by have := x.toInt_lt; omega⟩
/-- down from N to 0 -/
theorem am_down {P : Nat → Prop} {N : Nat} (fin : P N) (step : ∀ m, m < N → P (m + 1) → P m) : ∀ m, m ≤ N → P m := by
  intro m hm
  have : ∀ k, k ≤ N → P (N - k) := by
    intro k
    induction k with
    | zero => intro _; exact fin
    | succ k ih =>
      intro hk
      have h1 := step (N - (k + 1)) (by omega)
      rw [show N - (k + 1) + 1 = N - k by omega] at h1
      exact h1 (ih (by omega))
  have h := this (N - m) (by omega)
  rw [show N - (N - m) = m by omega] at h
  exact h
/-- a row's first n places all v -/
def am_fil (I : Nat → Nat → Int32) (a n : Nat) (v : Int32) : Nat → Nat → Int32 := fun c k => if c = a ∧ k < n then v else I c k
theorem am_fil_0 (I : Nat → Nat → Int32) (a : Nat) (v : Int32) : am_fil I a 0 v = I := by
  funext c k
  unfold am_fil
  rw [if_neg (by omega)]
theorem am_fil_s (I : Nat → Nat → Int32) (a n : Nat) (v : Int32) : am_up (am_fil I a n v) a n v = am_fil I a (n + 1) v := by
  funext c k
  unfold am_up va_up am_fil
  by_cases hc : c = a
  · subst hc
    rw [if_pos rfl]
    by_cases hk : k = n
    · subst hk
      rw [if_pos rfl, if_pos ⟨rfl, by omega⟩]
    · rw [if_neg hk]
      by_cases hl : k < n
      · rw [if_pos ⟨rfl, hl⟩, if_pos ⟨rfl, by omega⟩]
      · rw [if_neg (by omega), if_neg (by omega)]
  · rw [if_neg hc, if_neg (by omega), if_neg (by omega)]
/-- the reference's cells stay -/
def am_ag (I I' : Nat → Nat → Int32) : Prop := ∀ a, 105 ≤ a → I' a = I a
theorem am_ag.rf {I : Nat → Nat → Int32} : am_ag I I := fun _ _ => rfl
theorem am_ag.up {I I' : Nat → Nat → Int32} {c k : Nat} {v : Int32} (h : am_ag I I') (hc : c < 105) : am_ag I (am_up I' c k v) := fun a ha => (am_up_ne (by omega)).trans (h a ha)
theorem am_ag.fil {I I' : Nat → Nat → Int32} {c n : Nat} {v : Int32} (h : am_ag I I') (hc : c < 105) : am_ag I (am_fil I' c n v) := by
  intro a ha
  rw [← h a ha]
  funext k
  unfold am_fil
  rw [if_neg (by omega)]
theorem am_ag.tr {I I' I'' : Nat → Nat → Int32} (h : am_ag I I') (h' : am_ag I' I'') : am_ag I I'' := fun a ha => (h' a ha).trans (h a ha)
theorem oi_succ (m : Nat) : Int32.ofInt (m : Int) + 1 = Int32.ofInt ((m + 1 : Nat) : Int) := by
  rw [show (1 : Int32) = Int32.ofInt 1 from rfl, oi_add]
  rfl
theorem am_ix_of {x N : Int32} {n : Nat} (hN : N = Int32.ofInt (n : Int)) (hn : n < 2147483648) (h1 : ¬ x < 0) (h2 : ¬ N ≤ x) : am_ix x n := by
  obtain ⟨z, rfl, hz1, hz2⟩ := oi_of x
  subst hN
  rw [oi_le (by omega) (by omega)] at h2
  have h1 : ¬ Int32.ofInt z < Int32.ofInt 0 := h1
  rw [oi_lt (by omega) (by omega)] at h1
  exact oi_ix (by omega) (by omega) (by omega)
