/-! LEAST AND GREATEST -/
def MO (R : Int32 → Int32 → Prop) (op : Int32 → Int32 → Int32) : Prop := (∀ a, R a a) ∧ (∀ a b c, R a b → R b c → R a c) ∧ (∀ a b, R a b → R b a → a = b) ∧ (∀ a b, R (op a b) a) ∧ (∀ a b, R (op a b) b) ∧ ∀ a b, op a b = a ∨ op a b = b
def Rle (a b : Int32) : Prop := a ≤ b
def Rge (a b : Int32) : Prop := b ≤ a
def mn2 (a b : Int32) : Int32 := if a ≤ b then a else b
def mx2 (a b : Int32) : Int32 := if b ≤ a then a else b
theorem le_tot (a b : Int32) : a ≤ b ∨ b ≤ a := by
  rw [Int32.le_iff_toInt_le, Int32.le_iff_toInt_le]
  omega
theorem le_nle {a b : Int32} (h : ¬ a ≤ b) : b ≤ a := (le_tot a b).resolve_left h
theorem min_mn (a b : Int32) : am_min a b = mn2 a b := by
  unfold am_min mn2
  by_cases h : a ≤ b
  · rw [if_pos h, if_neg (fun q => Int32.not_lt.mpr h q)]
  · rw [if_neg h, if_pos (Int32.not_le.mp h)]
theorem max_mx (a b : Int32) : am_max a b = mx2 a b := by
  unfold am_max mx2
  by_cases h : b ≤ a
  · rw [if_pos h, if_neg (fun q => Int32.not_lt.mpr h q)]
  · rw [if_neg h, if_pos (Int32.not_le.mp h)]
theorem MO.mn : MO Rle mn2 := by
  refine ⟨fun a => Int32.le_refl a, fun a b c h h' => Int32.le_trans h h', fun a b h h' => Int32.le_antisymm h h', fun a b => ?_, fun a b => ?_, fun a b => ?_⟩
  · unfold Rle mn2
    split
    · exact Int32.le_refl a
    · rename_i h
      exact le_nle h
  · unfold Rle mn2
    split
    · rename_i h
      exact h
    · exact Int32.le_refl b
  · unfold mn2
    split
    · exact Or.inl rfl
    · exact Or.inr rfl
theorem MO.mx : MO Rge mx2 := by
  refine ⟨fun a => Int32.le_refl a, fun a b c h h' => Int32.le_trans h' h, fun a b h h' => Int32.le_antisymm h' h, fun a b => ?_, fun a b => ?_, fun a b => ?_⟩
  · unfold Rge mx2
    split
    · exact Int32.le_refl a
    · rename_i h
      exact le_nle h
  · unfold Rge mx2
    split
    · rename_i h
      exact h
    · exact Int32.le_refl b
  · unfold mx2
    split
    · exact Or.inl rfl
    · exact Or.inr rfl
def IsM (R : Int32 → Int32 → Prop) (P : Nat → Prop) (f : Nat → Int32) (v : Int32) : Prop := (∀ g, P g → R v (f g)) ∧ ∃ g, P g ∧ f g = v
theorem IsM.un {R : Int32 → Int32 → Prop} {op : Int32 → Int32 → Int32} {P : Nat → Prop} {f : Nat → Int32} {v v' : Int32} (h : MO R op) (a : IsM R P f v) (b : IsM R P f v') : v = v' := by
  obtain ⟨a1, g, g1, g2⟩ := a
  obtain ⟨b1, q, q1, q2⟩ := b
  exact h.2.2.1 _ _ (by rw [← q2]; exact a1 q q1) (by rw [← g2]; exact b1 g g1)
theorem IsM.iff {R : Int32 → Int32 → Prop} {P P' : Nat → Prop} {f f' : Nat → Int32} {v : Int32} (a : IsM R P f v) (hp : ∀ g, P' g ↔ P g) (hf : ∀ g, P g → f' g = f g) : IsM R P' f' v := by
  obtain ⟨a1, g, g1, g2⟩ := a
  exact ⟨fun q h => by rw [hf q ((hp q).mp h)]; exact a1 q ((hp q).mp h), g, (hp g).mpr g1, (hf g g1).trans g2⟩
theorem IsM.add {R : Int32 → Int32 → Prop} {op : Int32 → Int32 → Int32} {P P' : Nat → Prop} {f : Nat → Int32} {v : Int32} {g : Nat} (h : MO R op) (a : IsM R P f v) (hp : ∀ q, P' q ↔ P q ∨ q = g) : IsM R P' f (op v (f g)) := by
  obtain ⟨a1, q, q1, q2⟩ := a
  obtain ⟨m1, m2, m3, m4, m5, m6⟩ := h
  refine ⟨fun z hz => ?_, ?_⟩
  · rcases (hp z).mp hz with w | w
    · exact m2 _ _ _ (m4 _ _) (a1 z w)
    · rw [w]
      exact m5 _ _
  · rcases m6 v (f g) with e | e
    · exact ⟨q, (hp q).mpr (Or.inl q1), by rw [e, q2]⟩
    · exact ⟨g, (hp g).mpr (Or.inr rfl), e.symm⟩
theorem IsM.one {R : Int32 → Int32 → Prop} {op : Int32 → Int32 → Int32} {P : Nat → Prop} {f : Nat → Int32} {g : Nat} (h : MO R op) (hp : ∀ q, P q ↔ q = g) : IsM R P f (f g) := ⟨fun z hz => by rw [(hp z).mp hz]; exact h.1 _, g, (hp g).mpr rfl, rfl⟩
theorem IsM.fold {R : Int32 → Int32 → Prop} {op : Int32 → Int32 → Int32} {P : Nat → Prop} {f F : Nat → Int32} {top : Int32} {N : Nat} (h : MO R op) (h0 : F 0 = top) (hn : ∀ m, m < N → ¬ P m → F (m + 1) = F m) (hp : ∀ m, m < N → P m → F (m + 1) = op (F m) (f m)) (ht : ∀ m, m < N → P m → op top (f m) = f m) : ∀ m, m ≤ N → IsM R (fun g => g < m ∧ P g) f (F m) ∨ ((∀ g, g < m → ¬ P g) ∧ F m = top) := by
  intro m
  induction m with
  | zero => intro _; exact Or.inr ⟨fun g hg => absurd hg (by omega), h0⟩
  | succ m ih =>
    intro hm
    by_cases q : P m
    · refine Or.inl ?_
      rw [hp m (by omega) q]
      have hq : ∀ z, (z < m + 1 ∧ P z) ↔ (z < m ∧ P z) ∨ z = m := by
        intro z
        refine ⟨fun ⟨a, b⟩ => ?_, fun w => ?_⟩
        · by_cases e : z = m
          · exact Or.inr e
          · exact Or.inl ⟨by omega, b⟩
        · rcases w with ⟨a, b⟩ | e
          · exact ⟨by omega, b⟩
          · rw [e]
            exact ⟨by omega, q⟩
      rcases ih (by omega) with w | ⟨w1, w2⟩
      · exact w.add h hq
      · rw [w2, ht m (by omega) q]
        refine IsM.one h (fun z => ?_)
        rw [hq z]
        exact ⟨fun a => a.elim (fun b => absurd b.2 (w1 z b.1)) id, Or.inr⟩
    · rw [hn m (by omega) q]
      rcases ih (by omega) with w | ⟨w1, w2⟩
      · refine Or.inl (w.iff (fun z => ⟨fun ⟨a, b⟩ => ⟨?_, b⟩, fun ⟨a, b⟩ => ⟨by omega, b⟩⟩) (fun _ _ => rfl))
        by_cases e : z = m
        · rw [e] at b
          exact absurd b q
        · omega
      · refine Or.inr ⟨fun z hz => ?_, w2⟩
        by_cases e : z = m
        · rw [e]
          exact q
        · exact w1 z (by omega)
theorem IsM.join {R : Int32 → Int32 → Prop} {op : Int32 → Int32 → Int32} {P : Nat → Prop} {S : Nat → Nat → Prop} {f h : Nat → Int32} {v : Int32} (hM : MO R op) (a : IsM R P h v) (b : ∀ c, P c → IsM R (S c) f (h c)) : IsM R (fun g => ∃ c, P c ∧ S c g) f v := by
  obtain ⟨a1, c, c1, c2⟩ := a
  refine ⟨fun g ⟨q, q1, q2⟩ => hM.2.1 _ _ _ (a1 q q1) ((b q q1).1 g q2), ?_⟩
  obtain ⟨-, g, g1, g2⟩ := b c c1
  exact ⟨g, ⟨c, c1, g1⟩, g2.trans c2⟩
/-! A CELL'S SPAN -/
theorem lowb {x : Int32} : ∀ n i, i < n → tb x i = true → ∃ k, k ≤ i ∧ tb x k = true ∧ ∀ j, j < k → tb x j = false := by
  intro n
  induction n with
  | zero => intro i hi; exact absurd hi (by omega)
  | succ n ih =>
    intro i hi h
    by_cases q : ∃ j, j < i ∧ tb x j = true
    · obtain ⟨j, j1, j2⟩ := q
      obtain ⟨k, k1, k2, k3⟩ := ih j (by omega) j2
      exact ⟨k, by omega, k2, k3⟩
    · refine ⟨i, Nat.le_refl _, h, fun j hj => ?_⟩
      cases e : tb x j with
      | false => rfl
      | true => exact absurd ⟨j, hj, e⟩ q
theorem highb {x : Int32} : ∀ n i, 24 - i ≤ n → i < 24 → tb x i = true → ∃ k, i ≤ k ∧ k < 24 ∧ tb x k = true ∧ ∀ j, k < j → j < 24 → tb x j = false := by
  intro n
  induction n with
  | zero => intro i hi h24; exact absurd hi (by omega)
  | succ n ih =>
    intro i hi h24 h
    by_cases q : ∃ j, i < j ∧ j < 24 ∧ tb x j = true
    · obtain ⟨j, j1, j2, j3⟩ := q
      obtain ⟨k, k1, k2, k3, k4⟩ := ih j (by omega) j2 j3
      exact ⟨k, by omega, k2, k3, k4⟩
    · refine ⟨i, Nat.le_refl _, h24, h, fun j hj j24 => ?_⟩
      cases e : tb x j with
      | false => rfl
      | true => exact absurd ⟨j, hj, j24, e⟩ q
theorem pg_mono {c a b w : Nat} (hw : w < 4) (h : a ≤ b) (hb : b < 24) : v_partOfGuess (Int32.ofInt (c : Int)) (Int32.ofInt (a : Int)) (Int32.ofInt (w : Int)) ≤ v_partOfGuess (Int32.ofInt (c : Int)) (Int32.ofInt (b : Int)) (Int32.ofInt (w : Int)) := by
  have : w = 0 ∨ w = 1 ∨ w = 2 ∨ w = 3 := by omega
  unfold v_partOfGuess
  rcases this with rfl | rfl | rfl | rfl
  · rw [if_pos (by decide), if_pos (by decide)]
    exact Int32.le_refl _
  · rw [if_neg (by decide), if_pos (by decide), if_neg (by decide), if_pos (by decide)]
    exact Int32.le_refl _
  · rw [if_neg (by decide), if_neg (by decide), if_pos (by decide), if_neg (by decide), if_neg (by decide), if_pos (by decide)]
    exact Int32.le_refl _
  · rw [if_neg (by decide), if_neg (by decide), if_neg (by decide), if_pos (by decide), if_neg (by decide), if_neg (by decide), if_neg (by decide), if_pos (by decide)]
    rw [show (2 : Int32) = Int32.ofInt 2 from rfl, show (1 : Int32) = Int32.ofInt 1 from rfl, oi_div (by omega) (by omega) (by omega) (by omega), oi_div (by omega) (by omega) (by omega) (by omega), oi_add, oi_add, oi_le (by omega) (by omega)]
    omega
theorem pg_4 {c b : Nat} (hb : b < 24) : v_partOfGuess (Int32.ofInt (c : Int)) (Int32.ofInt (b : Int)) (Int32.ofInt ((4 : Nat) : Int)) = Int32.ofInt ((b % 2 : Nat) : Int) := by
  unfold v_partOfGuess
  rw [if_neg (by decide), if_neg (by decide), if_neg (by decide), if_neg (by decide), show (2 : Int32) = Int32.ofInt 2 from rfl, oi_rem (by omega) (by omega) (by omega) (by omega)]
  congr 1
def pgf (w : Int32) (g : Nat) : Int32 := v_partOfGuess (Int32.ofInt ((g / 24 : Nat) : Int)) (Int32.ofInt ((g % 24 : Nat) : Int)) w
theorem pgf_at {c i : Nat} (hi : i < 24) (w : Int32) : pgf w (24 * c + i) = v_partOfGuess (Int32.ofInt (c : Int)) (Int32.ofInt (i : Int)) w := by
  unfold pgf
  rw [show (24 * c + i) / 24 = c by omega, show (24 * c + i) % 24 = i by omega]
def spf (w : Nat) (E : Nat → Int32) (g : Nat) : Int32 := if w < 5 then pgf (Int32.ofInt (w : Int)) g else E g
def gEn (I : Nat → Nat → Int32) (g : Nat) : Int32 := g_E I (Int32.ofInt (g : Int)) (gA I (-9) (-9))
def gLn (I : Nat → Nat → Int32) (g : Nat) : Int32 := g_L I (Int32.ofInt (g : Int)) (gA I (-9) (-9))
def inC (x : Int32) (c g : Nat) : Prop := ∃ i, i < 24 ∧ g = 24 * c + i ∧ tb x i = true
theorem slo_ok {I : Nat → Nat → Int32} (hI : Inv I) (hw : Wf I) {c w : Nat} (hc : c < 576) (hz : ¬ fbit I c = 0) (h6 : w < 6) : IsM Rle (inC (fbit I c) c) (spf w (gEn I)) (slo I c w) := by
  have hM : M24 (fbit I c) := M24.ft
  obtain ⟨i0, i1, i2⟩ := hM.nz.mp hz
  by_cases h4 : w < 4
  · obtain ⟨k, k1, k2, k3⟩ := lowb 24 i0 i1 i2
    have e : slo I c w = v_partOfGuess (Int32.ofInt (c : Int)) (Int32.ofInt (k : Int)) (Int32.ofInt (w : Int)) := by
      unfold slo
      rw [if_pos h4, ntz_low (by omega) k2 k3]
    have es : ∀ i, i < 24 → spf w (gEn I) (24 * c + i) = v_partOfGuess (Int32.ofInt (c : Int)) (Int32.ofInt (i : Int)) (Int32.ofInt (w : Int)) := fun i hi => (if_pos (by omega)).trans (pgf_at hi _)
    rw [e]
    refine ⟨fun g ⟨i, p1, p2, p3⟩ => ?_, 24 * c + k, ⟨k, by omega, rfl, k2⟩, es k (by omega)⟩
    rw [p2, es i p1]
    refine pg_mono h4 ?_ p1
    rcases Nat.lt_or_ge i k with q | q
    · rw [k3 i q] at p3
      cases p3
    · exact q
  · by_cases h5 : w = 4
    · subst h5
      have e : slo I c 4 = if fbit I c &&& 5592405 = 0 then 1 else 0 := rfl
      have es : ∀ i, i < 24 → spf 4 (gEn I) (24 * c + i) = Int32.ofInt ((i % 2 : Nat) : Int) := fun i hi => (if_pos (by omega)).trans ((pgf_at hi _).trans (pg_4 hi))
      rw [e]
      have m5 : M24 (fbit I c &&& 5592405) := hM.andl
      by_cases q : fbit I c &&& 5592405 = 0
      · rw [if_pos q]
        have od : ∀ i, i < 24 → tb (fbit I c) i = true → i % 2 = 1 := by
          intro i hi ht
          have := m5.zero.mp q i hi
          rw [tb_and, ht, Bool.true_and, tb_lev] at this
          have := of_decide_eq_false this
          omega
        refine ⟨fun g ⟨i, p1, p2, p3⟩ => ?_, 24 * c + i0, ⟨i0, i1, rfl, i2⟩, ?_⟩
        · rw [p2, es i p1, od i p1 p3]
          exact Int32.le_refl _
        · rw [es i0 i1, od i0 i1 i2]
          rfl
      · rw [if_neg q]
        obtain ⟨j, j1, j2⟩ := m5.nz.mp q
        rw [tb_and, Bool.and_eq_true, tb_lev] at j2
        have j3 := of_decide_eq_true j2.2
        refine ⟨fun g ⟨i, p1, p2, p3⟩ => ?_, 24 * c + j, ⟨j, j1, rfl, j2.1⟩, ?_⟩
        · rw [p2, es i p1]
          exact (oi_le (a := 0) (by omega) (by omega)).mpr (by omega)
        · rw [es j j1, j3.2]
          rfl
    · have e : slo I c w = q_ff I (Int32.ofInt (c : Int)) (aC I (-1) 1) := (if_neg h4).trans (if_neg h5)
      have es : ∀ i, i < 24 → spf w (gEn I) (24 * c + i) = q_ff I (Int32.ofInt (c : Int)) (aC I (-1) 1) := fun i hi => (if_neg (by omega)).trans (cell_fit hI hw (A_all hI) hc hi).2.1.symm
      rw [e]
      exact ⟨fun g ⟨i, p1, p2, p3⟩ => by rw [p2, es i p1]; exact Int32.le_refl _, 24 * c + i0, ⟨i0, i1, rfl, i2⟩, es i0 i1⟩
theorem shi_ok {I : Nat → Nat → Int32} (hI : Inv I) (hw : Wf I) {c w : Nat} (hc : c < 576) (hz : ¬ fbit I c = 0) (h6 : w < 6) : IsM Rge (inC (fbit I c) c) (spf w (gLn I)) (shi I c w) := by
  have hM : M24 (fbit I c) := M24.ft
  obtain ⟨i0, i1, i2⟩ := hM.nz.mp hz
  by_cases h4 : w < 4
  · obtain ⟨k, k1, k24, k2, k3⟩ := highb 24 i0 (by omega) i1 i2
    have e : shi I c w = v_partOfGuess (Int32.ofInt (c : Int)) (Int32.ofInt (k : Int)) (Int32.ofInt (w : Int)) := by
      unfold shi
      rw [if_pos h4, nlz_high hM k24 k2 k3]
    have es : ∀ i, i < 24 → spf w (gLn I) (24 * c + i) = v_partOfGuess (Int32.ofInt (c : Int)) (Int32.ofInt (i : Int)) (Int32.ofInt (w : Int)) := fun i hi => (if_pos (by omega)).trans (pgf_at hi _)
    rw [e]
    refine ⟨fun g ⟨i, p1, p2, p3⟩ => ?_, 24 * c + k, ⟨k, by omega, rfl, k2⟩, es k (by omega)⟩
    rw [p2, es i p1]
    refine pg_mono h4 ?_ k24
    rcases Nat.lt_or_ge k i with q | q
    · rw [k3 i q p1] at p3
      cases p3
    · exact q
  · by_cases h5 : w = 4
    · subst h5
      have e : shi I c 4 = if fbit I c &&& 11184810 = 0 then 0 else 1 := rfl
      have es : ∀ i, i < 24 → spf 4 (gLn I) (24 * c + i) = Int32.ofInt ((i % 2 : Nat) : Int) := fun i hi => (if_pos (by omega)).trans ((pgf_at hi _).trans (pg_4 hi))
      rw [e]
      have m5 : M24 (fbit I c &&& 11184810) := hM.andl
      by_cases q : fbit I c &&& 11184810 = 0
      · rw [if_pos q]
        have od : ∀ i, i < 24 → tb (fbit I c) i = true → i % 2 = 0 := by
          intro i hi ht
          have := m5.zero.mp q i hi
          rw [tb_and, ht, Bool.true_and, tb_upr] at this
          have := of_decide_eq_false this
          omega
        refine ⟨fun g ⟨i, p1, p2, p3⟩ => ?_, 24 * c + i0, ⟨i0, i1, rfl, i2⟩, ?_⟩
        · rw [p2, es i p1, od i p1 p3]
          exact Int32.le_refl _
        · rw [es i0 i1, od i0 i1 i2]
          rfl
      · rw [if_neg q]
        obtain ⟨j, j1, j2⟩ := m5.nz.mp q
        rw [tb_and, Bool.and_eq_true, tb_upr] at j2
        have j3 := of_decide_eq_true j2.2
        refine ⟨fun g ⟨i, p1, p2, p3⟩ => ?_, 24 * c + j, ⟨j, j1, rfl, j2.1⟩, ?_⟩
        · rw [p2, es i p1]
          exact (oi_le (b := 1) (by omega) (by omega)).mpr (by omega)
        · rw [es j j1, j3.2]
          rfl
    · have e : shi I c w = q_ft I (Int32.ofInt (c : Int)) (aC I (-1) 1) := (if_neg h4).trans (if_neg h5)
      have es : ∀ i, i < 24 → spf w (gLn I) (24 * c + i) = q_ft I (Int32.ofInt (c : Int)) (aC I (-1) 1) := fun i hi => (if_neg (by omega)).trans (cell_fit hI hw (A_all hI) hc hi).2.2.1.symm
      rw [e]
      exact ⟨fun g ⟨i, p1, p2, p3⟩ => by rw [p2, es i p1]; exact Int32.le_refl _, 24 * c + i0, ⟨i0, i1, rfl, i2⟩, es i0 i1⟩
/-! THE CLASS'S SPANS -/
def gfq (I : Nat → Nat → Int32) (g : Nat) : Prop := g < 13824 ∧ gfn I g = true
theorem inC_gfq {I : Nat → Nat → Int32} (hI : Inv I) (hw : Wf I) (g : Nat) : gfq I g ↔ ∃ c, (c < 576 ∧ ¬ fbit I c = 0) ∧ inC (fbit I c) c g := by
  refine ⟨fun ⟨h1, h2⟩ => ?_, fun ⟨c, ⟨c1, c2⟩, i, i1, e, t⟩ => ?_⟩
  · have e : 24 * (g / 24) + g % 24 = g := by omega
    have t : tb (fbit I (g / 24)) (g % 24) = true := by
      rw [bit_fn hI hw (by omega) (by omega), e]
      exact h2
    exact ⟨g / 24, ⟨by omega, (M24.ft (c := g / 24)).nz.mpr ⟨g % 24, by omega, t⟩⟩, g % 24, by omega, e.symm, t⟩
  · rw [e]
    refine ⟨by omega, ?_⟩
    rw [← bit_fn hI hw c1 i1]
    exact t
theorem sp_any {I : Nat → Nat → Int32} (hI : Inv I) (hw : Wf I) {R : Int32 → Int32 → Prop} {op : Int32 → Int32 → Int32} {F sl f : Nat → Int32} {top : Int32} (hM : MO R op) (h0 : F 0 = top) (hs : ∀ m, F (m + 1) = if fbit I m = 0 then F m else op (F m) (sl m)) (ht : ∀ x, op top x = x) (hc : ∀ c, c < 576 → ¬ fbit I c = 0 → IsM R (inC (fbit I c) c) f (sl c)) (ne : ∃ g, gfq I g) : IsM R (gfq I) f (F 576) := by
  rcases IsM.fold (N := 576) (P := fun c => ¬ fbit I c = 0) (f := sl) (F := F) hM h0 (fun m _ q => by rw [hs m, if_pos (Classical.byContradiction q)]) (fun m _ q => by rw [hs m, if_neg q]) (fun m _ _ => ht _) 576 (Nat.le_refl _) with q | ⟨q, -⟩
  · exact (q.join hM (S := fun c => inC (fbit I c) c) (f := f) (fun c hc' => hc c hc'.1 hc'.2)).iff (inC_gfq hI hw) (fun _ _ => rfl)
  · obtain ⟨g, hg⟩ := ne
    obtain ⟨c, ⟨c1, c2⟩, -⟩ := (inC_gfq hI hw g).mp hg
    exact absurd c2 (q c c1)
theorem top_min (x : Int32) : mn2 2147483647 x = x := by
  unfold mn2
  split
  · rename_i h
    refine Int32.le_antisymm h ?_
    obtain ⟨n, rfl, n1, n2⟩ := oi_of x
    exact (oi_le (b := 2147483647) (by omega) (by omega)).mpr (by omega)
  · rfl
theorem top_max (x : Int32) : mx2 (-2147483648) x = x := by
  unfold mx2
  split
  · rename_i h
    refine Int32.le_antisymm ?_ h
    obtain ⟨n, rfl, n1, n2⟩ := oi_of x
    exact (oi_le (a := -2147483648) (b := n) (by omega) (by omega)).mpr (by omega)
  · rfl
theorem sp_lo {I : Nat → Nat → Int32} (hI : Inv I) (hw : Wf I) (ne : ∃ g, gfq I g) {w : Nat} (h6 : w < 6) : IsM Rle (gfq I) (spf w (gEn I)) (mlo I w 576) := sp_any hI hw (F := mlo I w) (sl := fun c => slo I c w) MO.mn rfl (fun m => by rw [← min_mn]; rfl) top_min (fun c c1 c2 => slo_ok hI hw c1 c2 h6) ne
theorem sp_hi {I : Nat → Nat → Int32} (hI : Inv I) (hw : Wf I) (ne : ∃ g, gfq I g) {w : Nat} (h6 : w < 6) : IsM Rge (gfq I) (spf w (gLn I)) (mhi I w 576) := sp_any hI hw (F := mhi I w) (sl := fun c => shi I c w) MO.mx rfl (fun m => by rw [← max_mx]; rfl) top_max (fun c c1 c2 => shi_ok hI hw c1 c2 h6) ne
