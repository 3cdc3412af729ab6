/-! THE FEWEST, over all guesses -/
def Vc (I : Nat → Nat → Int32) (c : Nat) (a k : Nat) : Int32 := if a = 40 then q_so I (Int32.ofInt (c : Int)) k else if a = 41 then q_from I (Int32.ofInt (c : Int)) k else if a = 42 then q_till I (Int32.ofInt (c : Int)) k else I a k
theorem Vc.o (I : Nat → Nat → Int32) (c : Nat) {a k : Nat} (h : ¬ (40 ≤ a ∧ a ≤ 42)) : Vc I c a k = I a k := by
  unfold Vc
  rw [if_neg (by omega), if_neg (by omega), if_neg (by omega)]
theorem Vc.inv {I : Nat → Nat → Int32} (hI : Inv I) (c : Nat) : Inv (Vc I c) := hI.sm (fun a k q => Vc.o I c (fun p => q (by unfold Sc; omega)))
/-- the same reports, weighed alike where they are on -/
def Ag2 (I V : Nat → Nat → Int32) : Prop := bk I = bk V ∧ ∀ r, r < bk V → (I (43 + r) 4 = V (43 + r) 4 ∧ I (43 + r) 0 = V (43 + r) 0) ∧ (onr V r = true → I 40 r = V 40 r ∧ I 41 r = V 41 r ∧ I 42 r = V 42 r)
theorem Ag2.on {I V : Nat → Nat → Int32} (h : Ag2 I V) {r : Nat} (hr : r < bk V) : onr I r = onr V r := by
  unfold onr
  rw [(h.2 r hr).1.1]
theorem Ag2.nev {I V : Nat → Nat → Int32} (h : Ag2 I V) (b : Nat) {r : Nat} (hr : r < bk V) : nvr I b r = nvr V b r := by
  have e := h.on hr
  unfold nvr
  rw [e]
  cases ho : onr V r with
  | true => rw [((h.2 r hr).2 ho).1]
  | false => rfl
theorem Ag2.cl {I V : Nat → Nat → Int32} (h : Ag2 I V) (b : Nat) {r : Nat} (hr : r < bk V) : clr' I b r = clr' V b r := by
  have e := h.on hr
  unfold clr'
  rw [e, (h.2 r hr).1.2]
  cases ho : onr V r with
  | true => rw [((h.2 r hr).2 ho).1]
  | false => rfl
theorem nvn_cg {I V : Nat → Nat → Int32} (b : Nat) : ∀ m, (∀ r, r < m → nvr I b r = nvr V b r) → nvn I b m = nvn V b m := by
  intro m
  induction m with
  | zero => intro _; rfl
  | succ m ih =>
    intro h
    show nvn I b m + (if nvr I b m = true then 1 else 0) = nvn V b m + (if nvr V b m = true then 1 else 0)
    rw [ih (fun r hr => h r (by omega)), h m (by omega)]
theorem cS_cg {S T : Nat → Bool} : ∀ m, (∀ r, r < m → S r = T r) → cS S m = cS T m := by
  intro m
  induction m with
  | zero => intro _; rfl
  | succ m ih =>
    intro h
    show (if S m = true then cS S m ||| am_lshl 1 (Int32.ofInt (m : Int)) else cS S m) = (if T m = true then cS T m ||| am_lshl 1 (Int32.ofInt (m : Int)) else cS T m)
    rw [ih (fun r hr => h r (by omega)), h m (by omega)]
theorem ctn_c2 {I V : Nat → Nat → Int32} {c : Int64} (t : Int32) : ∀ m, (∀ r, r < m → tl c r = true → I 41 r = V 41 r ∧ I 42 r = V 42 r) → ctn I c t m = ctn V c t m := by
  intro m
  induction m with
  | zero => intro _; rfl
  | succ m ih =>
    intro h
    have e : cth I c t m = cth V c t m := by
      unfold cth
      cases hc : tl c m with
      | true =>
        obtain ⟨e1, e2⟩ := h m (by omega) hc
        rw [e1, e2]
      | false => rw [Bool.false_and, Bool.false_and]
    show ctn I c t m + (if cth I c t m = true then 1 else 0) = ctn V c t m + (if cth V c t m = true then 1 else 0)
    rw [ih (fun r hr => h r (by omega)), e]
theorem tfo_c2 {I V : Nat → Nat → Int32} {c : Int64} (hb : bk I = bk V) (h : ∀ r, r < bk V → tl c r = true → I 41 r = V 41 r ∧ I 42 r = V 42 r) : ∀ m, m ≤ bk V → tfo I c m = tfo V c m := by
  have hC : Cn I c = Cn V c := funext fun u => by
    unfold Cn
    rw [hb]
    exact ctn_c2 u _ h
  intro m
  induction m with
  | zero =>
    intro _
    show (Cn I c 0, (0 : Int32)) = (Cn V c 0, 0)
    rw [hC]
  | succ m ih =>
    intro hm
    show (if tl c m = true then tst (Cn I c) (tfo I c m) (I 41 m) else tfo I c m) = (if tl c m = true then tst (Cn V c) (tfo V c m) (V 41 m) else tfo V c m)
    rw [hC, ih (by omega)]
    by_cases hc : tl c m = true
    · rw [if_pos hc, if_pos hc, (h m (by omega) hc).1]
    · rw [if_neg hc, if_neg hc]
theorem Ag2.g {I V : Nat → Nat → Int32} (h : Ag2 I V) (hV : Inv V) (b : Nat) : gNv I b = gNv V b ∧ gH I b = gH V b ∧ gTm I b = gTm V b := by
  have hb := h.1
  have e1 : gNv I b = gNv V b := by
    unfold gNv
    rw [hb]
    exact nvn_cg b _ (fun r hr => h.nev b hr)
  have e2 : cst I b = cst V b := by
    unfold cst
    rw [hb]
    exact cS_cg _ (fun r hr => h.cl b hr)
  have e3 : tfo I (cst V b) (bk I) = tfo V (cst V b) (bk V) := by
    rw [hb]
    refine tfo_c2 hb (fun r hr ht => ?_) _ (Nat.le_refl _)
    have ht' : tl (cS (clr' V b) (bk V)) r = true := ht
    rw [tl_cS _ _ hV.book.2, Bool.and_eq_true] at ht'
    have ho : onr V r = true := by
      have := ht'.2
      unfold clr' at this
      rw [Bool.and_eq_true] at this
      exact this.1
    exact ((h.2 r hr).2 ho).2
  refine ⟨e1, ?_, ?_⟩
  · unfold gH
    rw [e1, e2, e3]
  · unfold gTm
    rw [e2, e3]
def fN (I : Nat → Nat → Int32) (g : Nat) : Nat := gNv (Vc I (g / 24)) (g % 24)
def fH (I : Nat → Nat → Int32) (g : Nat) : Nat := gH (Vc I (g / 24)) (g % 24)
def fTi (I : Nat → Nat → Int32) (g : Nat) : Int32 := gTm (Vc I (g / 24)) (g % 24)
/-- the fewest, the first guess and its TIME among the first guesses -/
def fst2 (I : Nat → Nat → Int32) : Nat → Int32 × Nat × Int32
  | 0 => (41, 0, 0)
  | g + 1 => if Int32.ofInt (fN I g : Int) < (fst2 I g).1 ∧ Int32.ofInt (fH I g : Int) < (fst2 I g).1 then (Int32.ofInt (fH I g : Int), g, fTi I g) else fst2 I g
theorem fN_40 {I : Nat → Nat → Int32} (hI : Inv I) (g : Nat) : fH I g ≤ 40 ∧ fN I g ≤ 40 := by
  obtain ⟨h1, h2, -⟩ := gH_40 (Vc.inv hI (g / 24)) (g % 24)
  exact ⟨h1, h2⟩
theorem fst2_end {I : Nat → Nat → Int32} (hI : Inv I) {g : Nat} (h : (fst2 I g).1 ≤ 0) : ∀ m, g ≤ m → fst2 I m = fst2 I g := by
  intro m hm
  induction hm with
  | refl => rfl
  | @step m hm ih =>
    show (if Int32.ofInt (fN I m : Int) < (fst2 I m).1 ∧ Int32.ofInt (fH I m : Int) < (fst2 I m).1 then (Int32.ofInt (fH I m : Int), m, fTi I m) else fst2 I m) = fst2 I g
    rw [ih, if_neg]
    intro q
    have l := (fN_40 hI m).2
    have : Int32.ofInt (fN I m : Int) < Int32.ofInt 0 := Int32.lt_of_lt_of_le q.1 h
    rw [oi_lt (by omega) (by omega)] at this
    omega
theorem fst2_1 {I : Nat → Nat → Int32} (hI : Inv I) : Int32.ofInt (fN I 0 : Int) < (fst2 I 0).1 ∧ Int32.ofInt (fH I 0 : Int) < (fst2 I 0).1 := by
  obtain ⟨h1, h2⟩ := fN_40 hI 0
  exact ⟨(oi_lt (b := 41) (by omega) (by omega)).mpr (by omega), (oi_lt (b := 41) (by omega) (by omega)).mpr (by omega)⟩
def Fm (I I' : Nat → Nat → Int32) (g : Nat) : Prop := I' 87 5 = (fst2 I g).1 ∧ (g = 0 ∨ (I' 87 2 = Int32.ofInt (((fst2 I g).2.1 / 24 : Nat) : Int) ∧ I' 87 3 = Int32.ofInt (((fst2 I g).2.1 % 24 : Nat) : Int) ∧ I' 87 4 = (fst2 I g).2.2))
def wz (I I' : Nat → Nat → Int32) : Prop := ∀ a k, ¬ (37 ≤ a ∧ a ≤ 42) → ¬ a = 87 → I' a k = I a k
theorem wz.sm {I I' : Nat → Nat → Int32} (h : wz I I') : sm I I' := fun a k q => h a k (fun p => q (by unfold Sc; omega)) (fun p => q (by unfold Sc; omega))
