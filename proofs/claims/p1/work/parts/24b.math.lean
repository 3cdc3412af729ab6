/-! P1: next: the numbers -/
def nx_S (f : Nat → Nat) : Nat → Nat
  | 0 => 0
  | n + 1 => nx_S f n + f n
theorem nx_S_add (f : Nat → Nat) (n : Nat) : ∀ m, nx_S f (n + m) = nx_S f n + nx_S (fun b => f (n + b)) m := by
  intro m
  induction m with
  | zero => rfl
  | succ m ih =>
    show nx_S f (n + m) + f (n + m) = nx_S f n + (nx_S (fun b => f (n + b)) m + f (n + m))
    rw [ih]
    omega
theorem nx_S_congr {f g : Nat → Nat} : ∀ {n : Nat}, (∀ b, b < n → f b = g b) → nx_S f n = nx_S g n := by
  intro n
  induction n with
  | zero => intro _; rfl
  | succ n ih =>
    intro h
    show nx_S f n + f n = nx_S g n + g n
    rw [ih (fun b hb => h b (by omega)), h n (by omega)]
theorem nx_S_zero {f : Nat → Nat} {n : Nat} (h : ∀ b, b < n → f b = 0) : nx_S f n = 0 := by
  induction n with
  | zero => rfl
  | succ n ih =>
    show nx_S f n + f n = 0
    rw [ih (fun b hb => h b (by omega)), h n (by omega)]
theorem nx_S_sum (f g : Nat → Nat) (n : Nat) : nx_S (fun k => f k + g k) n = nx_S f n + nx_S g n := by
  induction n with
  | zero => rfl
  | succ n ih =>
    show nx_S (fun k => f k + g k) n + (f n + g n) = nx_S f n + f n + (nx_S g n + g n)
    rw [ih]
    omega
theorem nx_S_le {f : Nat → Nat} {n : Nat} (h : ∀ b, b < n → f b ≤ 1) : nx_S f n ≤ n := by
  induction n with
  | zero => exact Nat.le_refl _
  | succ n ih =>
    have h1 := ih (fun b hb => h b (by omega))
    have h2 := h n (by omega)
    show nx_S f n + f n ≤ n + 1
    omega
theorem nx_S_one (f : Nat → Nat) {j : Nat} : ∀ {n : Nat}, j < n → f j ≤ nx_S f n := by
  intro n
  induction n with
  | zero => intro h; omega
  | succ n ih =>
    intro h
    show f j ≤ nx_S f n + f n
    by_cases hj : j = n
    · subst hj
      omega
    · have := ih (by omega)
      omega
def nx_L (V F : Nat) : Nat := (V * (12 + F) + 239) / 240
def nx_c (V F : Nat) : Nat := if nx_L V F ≤ 12 then 13 - nx_L V F else 0
def nx_F (dx dy : Int) (z : Nat) : Nat := dx.natAbs * dx.natAbs + dy.natAbs * dy.natAbs + 9 * z * z
def nx_W (dx dy : Int) : Nat := (v_m_wayOf (Int32.ofInt dx) (Int32.ofInt dy) 0).toNatClampNeg
theorem nx_F_cast (dx dy : Int) (z : Nat) : ((nx_F dx dy z : Nat) : Int) = dx * dx + dy * dy + 9 * (z : Int) * (z : Int) := by
  unfold nx_F
  rw [Int.natCast_add, Int.natCast_add, Int.natAbs_mul_self, Int.natAbs_mul_self, Int.natCast_mul, Int.natCast_mul]
  rfl
theorem nx_F_le {dx dy : Int} {z : Nat} (h1 : -11 ≤ dx) (h2 : dx ≤ 11) (h3 : -11 ≤ dy) (h4 : dy ≤ 11) (hz : z ≤ 3) : nx_F dx dy z ≤ 323 := by
  have a : dx.natAbs ≤ 11 := by omega
  have b : dy.natAbs ≤ 11 := by omega
  have a' : dx.natAbs * dx.natAbs ≤ 11 * 11 := Nat.mul_le_mul a a
  have b' : dy.natAbs * dy.natAbs ≤ 11 * 11 := Nat.mul_le_mul b b
  have c' : 9 * z * z ≤ 9 * 3 * 3 := Nat.mul_le_mul (Nat.mul_le_mul (Nat.le_refl _) hz) hz
  unfold nx_F
  omega
theorem nx_far (dx dy : Int) (z : Nat) : v_farOf (Int32.ofInt dx) (Int32.ofInt dy) (Int32.ofInt (z : Int)) = Int32.ofInt ((nx_F dx dy z : Nat) : Int) := by
  unfold v_farOf
  rw [nx_F_cast, show (9 : Int32) = Int32.ofInt 9 from rfl, oi_mul, oi_mul, oi_mul, oi_mul, oi_add, oi_add]
theorem nx_VF {V F : Nat} (hV : V ≤ 240) (hF : F ≤ 323) : V * (12 + F) ≤ 80400 := by
  have : V * (12 + F) ≤ 240 * 335 := Nat.mul_le_mul hV (by omega)
  omega
theorem nx_pc : ∀ l, l < 13 → 1 ≤ l → v_bitCount (5592405 &&& (16777215 &&& am_shl 16777215 (2 * (Int32.ofInt (l : Nat) - 1)))) = Int32.ofInt ((13 - l : Nat) : Int) := by decide +kernel
theorem nx_bc {V F : Nat} (h1 : 1 ≤ V) (hV : V ≤ 240) (hF : F ≤ 323) : v_bitCount (5592405 &&& v_strongEnough (Int32.ofInt (F : Int)) (Int32.ofInt (V : Int))) = Int32.ofInt ((nx_c V F : Nat) : Int) := by
  have hb := nx_VF hV hF
  have hlo : 12 ≤ V * (12 + F) := Nat.le_trans (show 12 ≤ 1 * (12 + F) by omega) (Nat.mul_le_mul h1 (Nat.le_refl _))
  have eL : (Int32.ofInt (V : Int) * (12 + Int32.ofInt (F : Int)) + 239) / 240 = Int32.ofInt ((nx_L V F : Nat) : Int) := by
    rw [show (12 : Int32) = Int32.ofInt 12 from rfl, show (239 : Int32) = Int32.ofInt 239 from rfl, show (240 : Int32) = Int32.ofInt 240 from rfl, oi_add, oi_mul, oi_add]
    have e : (V : Int) * (12 + (F : Int)) + 239 = ((V * (12 + F) + 239 : Nat) : Int) := by
      rw [Int.natCast_add, Int.natCast_mul, Int.natCast_add]
      rfl
    rw [e, oi_div (by omega) (by omega) (by omega) (by omega)]
    rfl
  have hv : (0 : Int32) < Int32.ofInt (V : Int) := by
    show Int32.ofInt 0 < _
    rw [oi_lt (by omega) (by omega)]
    omega
  have hL1 : 1 ≤ nx_L V F := by
    unfold nx_L
    omega
  have hL2 : nx_L V F ≤ 400 := by
    unfold nx_L
    omega
  unfold v_strongEnough nx_c
  rw [if_pos hv, eL]
  by_cases h : nx_L V F ≤ 12
  · rw [if_pos h, if_pos (by show _ ≤ Int32.ofInt 12; rw [oi_le (by omega) (by omega)]; omega)]
    exact nx_pc _ (by omega) hL1
  · rw [if_neg h, if_neg (by show ¬ _ ≤ Int32.ofInt 12; rw [oi_le (by omega) (by omega)]; omega)]
    decide +kernel
/-- a cell's guesses -/
theorem nx_B1 : ∀ l, l < 13 → 1 ≤ l → nx_S (fun b => if b % 2 = 0 ∧ l ≤ b / 2 + 1 then 1 else 0) 24 = 13 - l := by decide +kernel
theorem nx_B {V F : Nat} (h1 : 1 ≤ nx_L V F) : nx_S (fun b => if b % 2 = 0 ∧ nx_L V F ≤ b / 2 + 1 then 1 else 0) 24 = nx_c V F := by
  unfold nx_c
  by_cases h : nx_L V F ≤ 12
  · rw [if_pos h]
    exact nx_B1 _ (by omega) h1
  · rw [if_neg h]
    exact nx_S_zero fun b hb => if_neg (by omega)
def nx_i (x y V g : Nat) : Nat := if g % 2 = 0 ∧ nx_L V (nx_F ((x : Int) - ((g / 1152 : Nat) : Int)) ((y : Int) - ((g / 96 % 12 : Nat) : Int)) (g / 24 % 4)) ≤ g / 2 % 12 + 1 then nx_W ((x : Int) - ((g / 1152 : Nat) : Int)) ((y : Int) - ((g / 96 % 12 : Nat) : Int)) else 8
def nx_n (x y V k n : Nat) : Nat := nx_S (fun g => if nx_i x y V g = k then 1 else 0) n
theorem nx_cell {x y V c k : Nat} (hk : k < 8) (hV : 1 ≤ V) : nx_n x y V k (24 * c + 24) = nx_n x y V k (24 * c) + (if nx_W ((x : Int) - ((c / 48 : Nat) : Int)) ((y : Int) - ((c / 4 % 12 : Nat) : Int)) = k then nx_c V (nx_F ((x : Int) - ((c / 48 : Nat) : Int)) ((y : Int) - ((c / 4 % 12 : Nat) : Int)) (c % 4)) else 0) := by
  unfold nx_n
  rw [nx_S_add]
  congr 1
  have e : ∀ b, b < 24 → (if nx_i x y V (24 * c + b) = k then 1 else 0) = (if nx_W ((x : Int) - ((c / 48 : Nat) : Int)) ((y : Int) - ((c / 4 % 12 : Nat) : Int)) = k then (if b % 2 = 0 ∧ nx_L V (nx_F ((x : Int) - ((c / 48 : Nat) : Int)) ((y : Int) - ((c / 4 % 12 : Nat) : Int)) (c % 4)) ≤ b / 2 + 1 then 1 else 0) else 0) := by
    intro b hb
    unfold nx_i
    rw [show (24 * c + b) / 1152 = c / 48 by omega, show (24 * c + b) / 96 % 12 = c / 4 % 12 by omega, show (24 * c + b) / 24 % 4 = c % 4 by omega, show (24 * c + b) / 2 % 12 = b / 2 by omega, show (24 * c + b) % 2 = b % 2 by omega]
    by_cases h1 : b % 2 = 0 ∧ nx_L V (nx_F ((x : Int) - ((c / 48 : Nat) : Int)) ((y : Int) - ((c / 4 % 12 : Nat) : Int)) (c % 4)) ≤ b / 2 + 1
    · rw [if_pos h1, if_pos h1]
    · rw [if_neg h1, if_neg h1, if_neg (by omega), ite_self]
  rw [nx_S_congr e]
  by_cases hW : nx_W ((x : Int) - ((c / 48 : Nat) : Int)) ((y : Int) - ((c / 4 % 12 : Nat) : Int)) = k
  · simp only [if_pos hW]
    refine nx_B ?_
    unfold nx_L
    have : 12 ≤ V * (12 + nx_F ((x : Int) - ((c / 48 : Nat) : Int)) ((y : Int) - ((c / 4 % 12 : Nat) : Int)) (c % 4)) := Nat.le_trans (show 12 ≤ 1 * (12 + nx_F ((x : Int) - ((c / 48 : Nat) : Int)) ((y : Int) - ((c / 4 % 12 : Nat) : Int)) (c % 4)) by omega) (Nat.mul_le_mul hV (Nat.le_refl _))
    omega
  · simp only [if_neg hW]
    exact nx_S_zero fun _ _ => rfl
def nx_d (V : Nat) (dx dy : Int) : Nat := nx_S (fun z => nx_c V (nx_F dx dy z)) 4
theorem nx_mid {x y V m k : Nat} (hk : k < 8) (hV : 1 ≤ V) : nx_n x y V k (96 * (m + 1)) = nx_n x y V k (96 * m) + (if nx_W ((x : Int) - ((m / 12 : Nat) : Int)) ((y : Int) - ((m % 12 : Nat) : Int)) = k then nx_d V ((x : Int) - ((m / 12 : Nat) : Int)) ((y : Int) - ((m % 12 : Nat) : Int)) else 0) := by
  have h0 := nx_cell (x := x) (y := y) (V := V) (c := 4 * m) hk hV
  have h1 := nx_cell (x := x) (y := y) (V := V) (c := 4 * m + 1) hk hV
  have h2 := nx_cell (x := x) (y := y) (V := V) (c := 4 * m + 2) hk hV
  have h3 := nx_cell (x := x) (y := y) (V := V) (c := 4 * m + 3) hk hV
  rw [show 4 * m / 48 = m / 12 by omega, show 4 * m / 4 % 12 = m % 12 by omega, show 4 * m % 4 = 0 by omega] at h0
  rw [show (4 * m + 1) / 48 = m / 12 by omega, show (4 * m + 1) / 4 % 12 = m % 12 by omega, show (4 * m + 1) % 4 = 1 by omega, show 24 * (4 * m + 1) = 24 * (4 * m) + 24 by omega] at h1
  rw [show (4 * m + 2) / 48 = m / 12 by omega, show (4 * m + 2) / 4 % 12 = m % 12 by omega, show (4 * m + 2) % 4 = 2 by omega, show 24 * (4 * m + 2) = 24 * (4 * m) + 24 + 24 by omega] at h2
  rw [show (4 * m + 3) / 48 = m / 12 by omega, show (4 * m + 3) / 4 % 12 = m % 12 by omega, show (4 * m + 3) % 4 = 3 by omega, show 24 * (4 * m + 3) = 24 * (4 * m) + 24 + 24 + 24 by omega] at h3
  rw [show 96 * (m + 1) = 24 * (4 * m) + 24 + 24 + 24 + 24 by omega, show 96 * m = 24 * (4 * m) by omega, h3, h2, h1, h0]
  by_cases hW : nx_W ((x : Int) - ((m / 12 : Nat) : Int)) ((y : Int) - ((m % 12 : Nat) : Int)) = k
  · rw [if_pos hW, if_pos hW, if_pos hW, if_pos hW, if_pos hW]
    simp only [nx_d, nx_S]
    omega
  · rw [if_neg hW, if_neg hW, if_neg hW, if_neg hW, if_neg hW]
-- ways
theorem nx_W1 : ∀ a, a < 23 → ∀ b, b < 23 → v_wayOf (Int32.ofInt ((a : Nat) - 11)) (Int32.ofInt ((b : Nat) - 11)) = v_m_wayOf (Int32.ofInt ((a : Nat) - 11)) (Int32.ofInt ((b : Nat) - 11)) 0 ∧ v_m_wayOf (Int32.ofInt ((a : Nat) - 11)) (Int32.ofInt ((b : Nat) - 11)) 0 = Int32.ofInt ((nx_W ((a : Nat) - 11) ((b : Nat) - 11) : Nat) : Int) ∧ nx_W ((a : Nat) - 11) ((b : Nat) - 11) ≤ 8 := by decide +kernel
theorem nx_Wd {dx dy : Int} (h1 : -11 ≤ dx) (h2 : dx ≤ 11) (h3 : -11 ≤ dy) (h4 : dy ≤ 11) : v_wayOf (Int32.ofInt dx) (Int32.ofInt dy) = Int32.ofInt ((nx_W dx dy : Nat) : Int) ∧ v_m_wayOf (Int32.ofInt dx) (Int32.ofInt dy) 0 = Int32.ofInt ((nx_W dx dy : Nat) : Int) ∧ nx_W dx dy ≤ 8 := by
  have h := nx_W1 (dx + 11).toNat (by omega) (dy + 11).toNat (by omega)
  rw [show (((dx + 11).toNat : Nat) : Int) - 11 = dx by omega, show (((dy + 11).toNat : Nat) : Int) - 11 = dy by omega] at h
  exact ⟨h.1.trans h.2.1, h.2.1, h.2.2⟩
theorem nx_i_le {x y V g : Nat} (hx : x < 12) (hy : y < 12) (hg : g < 13824) : nx_i x y V g ≤ 8 := by
  unfold nx_i
  split
  · exact (nx_Wd (by omega) (by omega) (by omega) (by omega)).2.2
  · exact Nat.le_refl _
theorem nx_one : ∀ j, j < 9 → nx_S (fun k => if j = k then 1 else 0) 9 = 1 := by decide +kernel
theorem nx_sum {x y V : Nat} (hx : x < 12) (hy : y < 12) : ∀ n, n ≤ 13824 → nx_S (fun k => nx_n x y V k n) 9 = n := by
  intro n
  induction n with
  | zero => intro _; exact nx_S_zero fun _ _ => rfl
  | succ n ih =>
    intro hn
    have e : nx_S (fun k => nx_n x y V k (n + 1)) 9 = nx_S (fun k => nx_n x y V k n + (if nx_i x y V n = k then 1 else 0)) 9 := rfl
    rw [e, nx_S_sum, ih (by omega), nx_one _ (by have := nx_i_le (V := V) hx hy (show n < 13824 by omega); omega)]
theorem nx_n_le {x y V k n : Nat} : nx_n x y V k n ≤ n := nx_S_le fun b _ => by
  show (if _ then 1 else 0) ≤ 1
  split <;> omega
def nx_mx (f : Nat → Nat) : Nat → Nat
  | 0 => 0
  | n + 1 => if nx_mx f n < f n then f n else nx_mx f n
theorem nx_mx_le {f : Nat → Nat} {B : Nat} {n : Nat} (h : ∀ k, k < n → f k ≤ B) : nx_mx f n ≤ B := by
  induction n with
  | zero => exact Nat.zero_le _
  | succ n ih =>
    show (if nx_mx f n < f n then f n else nx_mx f n) ≤ B
    split
    · exact h n (by omega)
    · exact ih (fun k hk => h k (by omega))
def nx_G (x y V : Nat) : Nat := nx_mx (fun k => nx_n x y V k 13824) 9
theorem nx_G_le {x y V : Nat} : nx_G x y V ≤ 13824 := nx_mx_le fun _ _ => nx_n_le
def nx_M (V : Nat) : Nat → Nat × Nat
  | 0 => (13825, 0)
  | p + 1 => if nx_G (p / 12) (p % 12) V < (nx_M V p).1 then (nx_G (p / 12) (p % 12) V, p) else nx_M V p
theorem nx_M_le (V : Nat) : ∀ p, (nx_M V p).1 ≤ 13825 ∧ (p ≤ 144 → (nx_M V p).2 < 144) := by
  intro p
  induction p with
  | zero => exact ⟨Nat.le_refl _, fun _ => show 0 < 144 by decide⟩
  | succ p ih =>
    show (if nx_G (p / 12) (p % 12) V < (nx_M V p).1 then (nx_G (p / 12) (p % 12) V, p) else nx_M V p).1 ≤ 13825 ∧ (p + 1 ≤ 144 → (if nx_G (p / 12) (p % 12) V < (nx_M V p).1 then (nx_G (p / 12) (p % 12) V, p) else nx_M V p).2 < 144)
    split
    · exact ⟨Nat.le_trans nx_G_le (by decide), fun h => by show p < 144; omega⟩
    · exact ⟨ih.1, fun h => ih.2 (by omega)⟩
