/-! STRONG ENOUGH: a cell's bits against a guess's force -/
theorem strong_tb {F V : Int} (hF : 0 ≤ F ∧ F ≤ 2000) (hV : -240 ≤ V ∧ V ≤ 240) {i : Nat} (hi : i < 24) : tb (v_strongEnough (Int32.ofInt F) (Int32.ofInt V)) i = decide (V * (12 + F) ≤ 240 * ((i / 2 + 1 : Nat) : Int)) := by
  have w1 : V * (12 + F) ≤ 240 * (12 + F) := Int.mul_le_mul_of_nonneg_right hV.2 (by omega)
  have w2 : -240 * (12 + F) ≤ V * (12 + F) := Int.mul_le_mul_of_nonneg_right hV.1 (by omega)
  unfold v_strongEnough
  by_cases h0 : 0 < V
  · have c0 : (0 : Int32) < Int32.ofInt V := (oi_lt (a := 0) (by omega) (by omega)).mpr h0
    have hW : 0 < V * (12 + F) := Int.mul_pos h0 (by omega)
    have e : ((Int32.ofInt V * (12 + Int32.ofInt F)) + 239) / 240 = Int32.ofInt ((V * (12 + F) + 239) / 240) := by
      rw [show (12 : Int32) = Int32.ofInt 12 from rfl, oi_add, oi_mul, show (239 : Int32) = Int32.ofInt 239 from rfl, oi_add, show (240 : Int32) = Int32.ofInt 240 from rfl, oi_div (by omega) (by omega) (by omega) (by omega)]
    rw [if_pos c0, e]
    generalize V * (12 + F) = W at w1 w2 hW ⊢
    by_cases hL : (W + 239) / 240 ≤ 12
    · have hL' : Int32.ofInt ((W + 239) / 240) ≤ 12 := (oi_le (b := 12) (by omega) (by omega)).mpr hL
      have sh : 2 * (Int32.ofInt ((W + 239) / 240) - 1) = Int32.ofNat (2 * ((W + 239) / 240 - 1)).toNat := by
        rw [oi_nat, show (1 : Int32) = Int32.ofInt 1 from rfl, oi_sub, show (2 : Int32) = Int32.ofInt 2 from rfl, oi_mul]
        congr 1
        omega
      rw [if_pos hL', tb_and, tb_all, decide_eq_true hi, Bool.true_and, sh, tb_shl (by omega) _ (by omega), tb_all, decide_eq_true (show i - (2 * ((W + 239) / 240 - 1)).toNat < 24 by omega), Bool.and_true]
      by_cases hn : (2 * ((W + 239) / 240 - 1)).toNat ≤ i
      · rw [decide_eq_true hn, decide_eq_true (by omega)]
      · rw [decide_eq_false hn, decide_eq_false (by omega)]
    · have hL' : ¬ Int32.ofInt ((W + 239) / 240) ≤ 12 := fun q => hL ((oi_le (b := 12) (by omega) (by omega)).mp q)
      rw [if_neg hL', tb_0, decide_eq_false (by omega)]
  · have c0 : ¬ (0 : Int32) < Int32.ofInt V := fun q => h0 ((oi_lt (a := 0) (by omega) (by omega)).mp q)
    have hW : V * (12 + F) ≤ 0 := Int.mul_nonpos_of_nonpos_of_nonneg (by omega) (by omega)
    rw [if_neg c0, tb_all, decide_eq_true hi, decide_eq_true (by omega)]
theorem M24.strong {x y : Int32} : M24 (v_strongEnough x y) := by
  unfold v_strongEnough
  split
  · split
    · exact M24.all.andl
    · exact M24.z
  · exact M24.all
/-- the guess's force is enough -/
theorem force_le {F V S : Int} (hF : 0 ≤ F ∧ F ≤ 2000) (hV : -240 ≤ V ∧ V ≤ 240) (hS : 0 ≤ S ∧ S ≤ 12) : Int32.ofInt V ≤ (240 * Int32.ofInt S) / (12 + Int32.ofInt F) ↔ V * (12 + F) ≤ 240 * S := by
  have q1 : 240 * S / (12 + F) ≤ 240 * S := Int.ediv_le_self _ (by omega)
  have q2 : 0 ≤ 240 * S / (12 + F) := Int.ediv_nonneg (by omega) (by omega)
  rw [show (12 : Int32) = Int32.ofInt 12 from rfl, show (240 : Int32) = Int32.ofInt 240 from rfl, oi_add, oi_mul, oi_div (by omega) (by omega) (by omega) (by omega), oi_le (by omega) (by omega)]
  exact Int.le_ediv_iff_mul_le (by omega)
theorem strong_force {F V : Int} (hF : 0 ≤ F ∧ F ≤ 2000) (hV : -240 ≤ V ∧ V ≤ 240) {i : Nat} (hi : i < 24) : tb (v_strongEnough (Int32.ofInt F) (Int32.ofInt V)) i = decide (Int32.ofInt V ≤ (240 * Int32.ofInt ((i / 2 + 1 : Nat) : Int)) / (12 + Int32.ofInt F)) := by
  rw [strong_tb hF hV hi]
  exact decide_eq_decide.mpr (force_le hF hV (by omega)).symm
/-! A REPORT against a guess: the class's bits (k_), the reference's word (r_) -/
def k_drop (far way jar v : Int32) : Int32 := if v = -1 then 16777215 &&& ((if way = 8 then 0 else v_strongEnough far jar &&& 5592405) ^^^ (-1)) else if v = way then (if way = 8 then 0 else v_strongEnough far jar &&& 5592405) else 0
def k_near (l y : Int32) : Bool := if l = -1 then false else if y = 8 then false else if (l - y) &&& 7 ≤ 1 then true else if (l - y) &&& 7 = 7 then true else false
def k_need (w l y : Int32) : Int32 := if k_near l y = true then w - 20 else w
def k_to (l y : Int32) : Int32 := if y = 8 then (if l = -1 then 8 else l) else y
def k_pil (far y w l v : Int32) : Int32 := if v = -2 then 16777215 &&& (v_strongEnough far (k_need w l y) ^^^ (-1)) else if v = -1 then v_strongEnough far (k_need w l y) else if v = k_to l y then v_strongEnough far (k_need w l y) else 0
def k_bits (kind v far way jar stop w l : Int32) : Int32 := if kind = 0 then k_drop far way jar v else if kind = 1 then (k_pil far way w l v &&& 5592405) ||| (k_pil far 8 w l v &&& 11184810) else if kind = 2 then v_strongEnough far stop else if kind = 3 then v_strongEnough far v else 16777215 &&& (v_strongEnough far v ^^^ (-1))
def r_drop (force way jar : Int32) : Int32 := if way = 8 then -1 else if force < jar then -1 else way
def r_fall (force way w l : Int32) : Int32 := if w - (if v_isNear l way = 0 then 0 else 20) ≤ force then (if way = 8 then (if l < 0 then 8 else l) else way) else -9
def r_so (kind v force way jar stop w l : Int32) : Bool := if kind = 0 then decide (r_drop force way jar = v) else if kind = 1 then (if v = -2 then decide (r_fall force way w l = -9) else if v = -1 then !decide (r_fall force way w l = -9) else decide (r_fall force way w l = v)) else if kind = 2 then decide (stop ≤ force) else if kind = 3 then decide (v ≤ force) else decide (force < v)
theorem kn_k : ∀ l : Fin 9, ∀ y : Fin 9, k_near (Int32.ofInt ((l.val : Int) - 1)) (Int32.ofInt (y.val : Int)) = !decide (v_isNear (Int32.ofInt ((l.val : Int) - 1)) (Int32.ofInt (y.val : Int)) = 0) := by decide +kernel
theorem to_k : ∀ l : Fin 9, ∀ y : Fin 9, k_to (Int32.ofInt ((l.val : Int) - 1)) (Int32.ofInt (y.val : Int)) = (if Int32.ofInt (y.val : Int) = 8 then (if Int32.ofInt ((l.val : Int) - 1) < 0 then 8 else Int32.ofInt ((l.val : Int) - 1)) else Int32.ofInt (y.val : Int)) ∧ ¬ k_to (Int32.ofInt ((l.val : Int) - 1)) (Int32.ofInt (y.val : Int)) = -9 := by decide +kernel
theorem kn_l {l y : Int} (hl : -1 ≤ l ∧ l ≤ 7) (hy : 0 ≤ y ∧ y ≤ 8) : k_near (Int32.ofInt l) (Int32.ofInt y) = !decide (v_isNear (Int32.ofInt l) (Int32.ofInt y) = 0) := by
  have h := kn_k ⟨(l + 1).toNat, by omega⟩ ⟨y.toNat, by omega⟩
  have e1 : (((l + 1).toNat : Int) - 1) = l := by omega
  have e2 : ((y.toNat : Nat) : Int) = y := by omega
  simp only [e1, e2] at h
  exact h
theorem to_l {l y : Int} (hl : -1 ≤ l ∧ l ≤ 7) (hy : 0 ≤ y ∧ y ≤ 8) : k_to (Int32.ofInt l) (Int32.ofInt y) = (if Int32.ofInt y = 8 then (if Int32.ofInt l < 0 then 8 else Int32.ofInt l) else Int32.ofInt y) ∧ ¬ k_to (Int32.ofInt l) (Int32.ofInt y) = -9 := by
  have h := to_k ⟨(l + 1).toNat, by omega⟩ ⟨y.toNat, by omega⟩
  have e1 : (((l + 1).toNat : Int) - 1) = l := by omega
  have e2 : ((y.toNat : Nat) : Int) = y := by omega
  simp only [e1, e2] at h
  exact h
theorem need_l {w l y : Int} (hl : -1 ≤ l ∧ l ≤ 7) (hy : 0 ≤ y ∧ y ≤ 8) (hw : 0 ≤ w ∧ w ≤ 240) : k_need (Int32.ofInt w) (Int32.ofInt l) (Int32.ofInt y) = Int32.ofInt w - (if v_isNear (Int32.ofInt l) (Int32.ofInt y) = 0 then 0 else 20) ∧ ∃ n : Int, -240 ≤ n ∧ n ≤ 240 ∧ k_need (Int32.ofInt w) (Int32.ofInt l) (Int32.ofInt y) = Int32.ofInt n := by
  unfold k_need
  rw [kn_l hl hy]
  by_cases h : v_isNear (Int32.ofInt l) (Int32.ofInt y) = 0
  · rw [decide_eq_true h, if_pos h, Int32.sub_zero, if_neg (by decide)]
    exact ⟨rfl, w, by omega, by omega, rfl⟩
  · rw [decide_eq_false h, if_neg h, if_pos (by decide)]
    exact ⟨rfl, w - 20, by omega, by omega, by rw [show (20 : Int32) = Int32.ofInt 20 from rfl, oi_sub]⟩
/-- the force of a bit's guess -/
def k_force (far : Int32) (b : Nat) : Int32 := (240 * Int32.ofInt ((b / 2 + 1 : Nat) : Int)) / (12 + far)
theorem strong_k {F V : Int} (hF : 0 ≤ F ∧ F ≤ 2000) (hV : -240 ≤ V ∧ V ≤ 240) {b : Nat} (hb : b < 24) : tb (v_strongEnough (Int32.ofInt F) (Int32.ofInt V)) b = decide (Int32.ofInt V ≤ k_force (Int32.ofInt F) b) := strong_force hF hV hb
theorem le_nlt (x y : Int32) : decide (x ≤ y) = !decide (y < x) := by
  rcases Int32.lt_or_le y x with h | h
  · rw [decide_eq_true h, decide_eq_false (Int32.not_le.mpr h)]
    rfl
  · rw [decide_eq_true h, decide_eq_false (Int32.not_lt.mpr h)]
    rfl
theorem M24.drop {far way jar v : Int32} : M24 (k_drop far way jar v) := by
  unfold k_drop
  split
  · exact M24.nt
  · split
    · split
      · exact M24.z
      · exact M24.strong.andl
    · exact M24.z
theorem M24.bits {kind v far way jar stop w l : Int32} : M24 (k_bits kind v far way jar stop w l) := by
  unfold k_bits
  split
  · exact M24.drop
  · split
    · exact (M24.lev.andr).or M24.upr.andr
    · split
      · exact M24.strong
      · split
        · exact M24.strong
        · exact M24.nt
theorem drop_tb {F Y A : Int} {v : Int32} (hF : 0 ≤ F ∧ F ≤ 2000) (hY : 0 ≤ Y ∧ Y ≤ 8) (hA : -240 ≤ A ∧ A ≤ 240) {b : Nat} (hb : b < 24) : tb (k_drop (Int32.ofInt F) (Int32.ofInt Y) (Int32.ofInt A) v) b = decide (r_drop (k_force (Int32.ofInt F) b) (if b % 2 = 1 then 8 else Int32.ofInt Y) (Int32.ofInt A) = v) := by
  have ny : ¬ Int32.ofInt Y = -1 := fun h => by
    have := (oi_eq (a := Y) (b := -1) (by omega) (by omega)).mp (h.trans (by decide))
    omega
  have dD : tb (if Int32.ofInt Y = 8 then 0 else v_strongEnough (Int32.ofInt F) (Int32.ofInt A) &&& 5592405) b = decide (r_drop (k_force (Int32.ofInt F) b) (if b % 2 = 1 then 8 else Int32.ofInt Y) (Int32.ofInt A) = Int32.ofInt Y) := by
    unfold r_drop
    by_cases h8 : Int32.ofInt Y = 8
    · rw [if_pos h8, tb_0, h8, ite_self, if_pos rfl, decide_eq_false (by decide)]
    · rw [if_neg h8, tb_and, tb_lev, strong_k hF hA hb, le_nlt]
      by_cases h2 : b % 2 = 1
      · rw [if_pos h2, if_pos rfl, decide_eq_false (show ¬ (b < 24 ∧ b % 2 = 0) by omega), Bool.and_false, decide_eq_false (fun q => ny q.symm)]
      · rw [if_neg h2, if_neg h8, decide_eq_true (show b < 24 ∧ b % 2 = 0 by omega), Bool.and_true]
        by_cases hf : k_force (Int32.ofInt F) b < Int32.ofInt A
        · rw [if_pos hf, decide_eq_true hf, decide_eq_false (fun q => ny q.symm)]
          rfl
        · rw [if_neg hf, decide_eq_false hf, decide_eq_true rfl]
          rfl
  have two : r_drop (k_force (Int32.ofInt F) b) (if b % 2 = 1 then 8 else Int32.ofInt Y) (Int32.ofInt A) = Int32.ofInt Y ∨ r_drop (k_force (Int32.ofInt F) b) (if b % 2 = 1 then 8 else Int32.ofInt Y) (Int32.ofInt A) = -1 := by
    unfold r_drop
    by_cases h2 : b % 2 = 1
    · rw [if_pos h2, if_pos rfl]
      exact Or.inr rfl
    · rw [if_neg h2]
      split
      · exact Or.inr rfl
      · split
        · exact Or.inr rfl
        · exact Or.inl rfl
  unfold k_drop
  generalize r_drop (k_force (Int32.ofInt F) b) (if b % 2 = 1 then 8 else Int32.ofInt Y) (Int32.ofInt A) = D at dD two ⊢
  by_cases hv : v = -1
  · rw [if_pos hv, tb_nt hb, dD, hv]
    rcases two with h | h
    · rw [decide_eq_true h, decide_eq_false (by rw [h]; exact ny)]
      rfl
    · rw [decide_eq_true h, decide_eq_false (by rw [h]; exact fun q => ny q.symm)]
      rfl
  · rw [if_neg hv]
    by_cases hw : v = Int32.ofInt Y
    · rw [if_pos hw, dD, hw]
    · rw [if_neg hw, tb_0, decide_eq_false (fun q => ?_)]
      rcases two with h | h
      · exact hw (q.symm.trans h)
      · exact hv (q.symm.trans h)
theorem pil_tb {F Y W L : Int} {v : Int32} (hF : 0 ≤ F ∧ F ≤ 2000) (hY : 0 ≤ Y ∧ Y ≤ 8) (hW : 0 ≤ W ∧ W ≤ 240) (hL : -1 ≤ L ∧ L ≤ 7) (nv : ¬ v = -9) {b : Nat} (hb : b < 24) : tb (k_pil (Int32.ofInt F) (Int32.ofInt Y) (Int32.ofInt W) (Int32.ofInt L) (v)) b = (if v = -2 then decide (r_fall (k_force (Int32.ofInt F) b) (Int32.ofInt Y) (Int32.ofInt W) (Int32.ofInt L) = -9) else if v = -1 then !decide (r_fall (k_force (Int32.ofInt F) b) (Int32.ofInt Y) (Int32.ofInt W) (Int32.ofInt L) = -9) else decide (r_fall (k_force (Int32.ofInt F) b) (Int32.ofInt Y) (Int32.ofInt W) (Int32.ofInt L) = v)) := by
  obtain ⟨n1, n, n2, n3, n4⟩ := need_l hL hY hW
  obtain ⟨t1, t2⟩ := to_l hL hY
  unfold k_pil r_fall
  rw [← n1, ← t1]
  have sF : tb (v_strongEnough (Int32.ofInt F) (k_need (Int32.ofInt W) (Int32.ofInt L) (Int32.ofInt Y))) b = decide (k_need (Int32.ofInt W) (Int32.ofInt L) (Int32.ofInt Y) ≤ k_force (Int32.ofInt F) b) := by
    rw [n4, strong_k hF ⟨n2, n3⟩ hb]
  generalize k_need (Int32.ofInt W) (Int32.ofInt L) (Int32.ofInt Y) = N at sF ⊢
  generalize k_to (Int32.ofInt L) (Int32.ofInt Y) = T at t2 ⊢
  by_cases hf : N ≤ k_force (Int32.ofInt F) b
  · rw [decide_eq_true hf] at sF
    rw [if_pos hf, decide_eq_false t2]
    by_cases h2 : v = -2
    · rw [if_pos h2, if_pos h2, tb_nt hb, sF]
      rfl
    · rw [if_neg h2, if_neg h2]
      by_cases h1 : v = -1
      · rw [if_pos h1, if_pos h1, sF]
        rfl
      · rw [if_neg h1, if_neg h1]
        by_cases ht : v = T
        · rw [if_pos ht, sF, decide_eq_true ht.symm]
        · rw [if_neg ht, tb_0, decide_eq_false (fun q => ht q.symm)]
  · rw [decide_eq_false hf] at sF
    rw [if_neg hf]
    by_cases h2 : v = -2
    · rw [if_pos h2, if_pos h2, tb_nt hb, sF]
      rfl
    · rw [if_neg h2, if_neg h2]
      by_cases h1 : v = -1
      · rw [if_pos h1, if_pos h1, sF]
        rfl
      · rw [if_neg h1, if_neg h1, decide_eq_false (fun q => nv q.symm)]
        split
        · exact sF
        · exact tb_0 b
/-- what a REPORT may tell -/
def okV (kind v : Int32) : Prop := (kind = 1 → ¬ v = -9) ∧ (¬ kind = 0 → ¬ kind = 1 → ¬ kind = 2 → ∃ V : Int, 1 ≤ V ∧ V ≤ 240 ∧ v = Int32.ofInt V)
theorem bits_tb {F Y A S W L : Int} {kind v : Int32} (hF : 0 ≤ F ∧ F ≤ 2000) (hY : 0 ≤ Y ∧ Y ≤ 8) (hA : 0 ≤ A ∧ A ≤ 240) (hS : 0 ≤ S ∧ S ≤ 240) (hW : 0 ≤ W ∧ W ≤ 240) (hL : -1 ≤ L ∧ L ≤ 7) (hv : okV kind v) {b : Nat} (hb : b < 24) : tb (k_bits kind v (Int32.ofInt F) (Int32.ofInt Y) (Int32.ofInt A) (Int32.ofInt S) (Int32.ofInt W) (Int32.ofInt L)) b = r_so kind v (k_force (Int32.ofInt F) b) (if b % 2 = 1 then 8 else Int32.ofInt Y) (Int32.ofInt A) (Int32.ofInt S) (Int32.ofInt W) (Int32.ofInt L) := by
  unfold k_bits r_so
  by_cases h0 : kind = 0
  · rw [if_pos h0, if_pos h0]
    exact drop_tb hF hY (by omega) hb
  rw [if_neg h0, if_neg h0]
  by_cases h1 : kind = 1
  · rw [if_pos h1, if_pos h1]
    have nv := hv.1 h1
    rw [tb_or, tb_and, tb_and, tb_lev, tb_upr]
    by_cases h2 : b % 2 = 1
    · rw [if_pos h2, decide_eq_false (show ¬ (b < 24 ∧ b % 2 = 0) by omega), decide_eq_true (show b < 24 ∧ b % 2 = 1 from ⟨hb, h2⟩), Bool.and_false, Bool.and_true, Bool.false_or]
      exact pil_tb (Y := 8) hF (by omega) hW hL nv hb
    · rw [if_neg h2, decide_eq_true (show b < 24 ∧ b % 2 = 0 by omega), decide_eq_false (show ¬ (b < 24 ∧ b % 2 = 1) by omega), Bool.and_false, Bool.and_true, Bool.or_false]
      exact pil_tb hF hY hW hL nv hb
  rw [if_neg h1, if_neg h1]
  by_cases h2 : kind = 2
  · rw [if_pos h2, if_pos h2]
    exact strong_k hF (by omega) hb
  rw [if_neg h2, if_neg h2]
  obtain ⟨V, v1, v2, rfl⟩ := hv.2 h0 h1 h2
  by_cases h3 : kind = 3
  · rw [if_pos h3, if_pos h3]
    exact strong_k hF (by omega) hb
  rw [if_neg h3, if_neg h3, tb_nt hb, strong_k hF (by omega) hb, le_nlt, Bool.not_not]
