/-! A RUN THAT DOES NOT READ THE SCRIPT IS A RUN WITH ANY SCRIPT -/
theorem am_rdX (X : am_X) (o : Nat) (i : Instr) (st : List Value) (σ : am_M) : am_rd none o i st σ = am_rd X o i st σ ∨ i = .iaload ∨ i = .arraylength := by
  cases i <;> first | exact Or.inl rfl | exact Or.inr (Or.inl rfl) | exact Or.inr (Or.inr rfl)
theorem am_rdS {X : am_X} {o : Nat} {i : Instr} {st : List Value} {σ : am_M} {r : Nat × List Value} (h : am_rd none o i st σ = some r) : am_rd X o i st σ = some r := by
  rcases am_rdX X o i st σ with e | e | e
  · rw [← e]
    exact h
  · subst e
    unfold am_rd at h ⊢
    dsimp only at h ⊢
    split at h
    · split at h
      · cases h
      · rename_i hne
        rw [if_neg hne]
        exact h
    · cases h
  · subst e
    unfold am_rd at h ⊢
    dsimp only at h ⊢
    split at h
    · split at h
      · cases h
      · rename_i hne
        rw [if_neg hne]
        exact h
    · cases h
theorem am_oneX {X : am_X} {f g : Nat → Nat → Nat → List Value → List Value → am_M → Option (Option Value × am_M)} (hfg : ∀ d j pc ls st σ r, f d j pc ls st σ = some r → g d j pc ls st σ = some r) {d j pc : Nat} {ls st : List Value} {σ : am_M} {r : Option Value × am_M} (h : am_one none f d j pc ls st σ = some r) : am_one X g d j pc ls st σ = some r := by
  have h1 : am_one none g d j pc ls st σ = some r := am_more1 hfg h
  cases hT : T_ins j pc with
  | none =>
    unfold am_one at h1
    rw [hT] at h1
    cases h1
  | some il =>
    obtain ⟨i, len⟩ := il
    rcases am_rdX X (T_own j) i st σ with e | e | e
    · unfold am_one at h1 ⊢
      rw [hT] at h1 ⊢
      dsimp only at h1 ⊢
      rw [e] at h1
      exact h1
    · subst e
      cases hr : am_rd none (T_own j) .iaload st σ with
      | some q =>
        unfold am_one at h1 ⊢
        rw [hT] at h1 ⊢
        dsimp only at h1 ⊢
        rw [hr] at h1
        rw [am_rdS hr]
        exact h1
      | none =>
        exfalso
        unfold am_one at h1
        rw [hT] at h1
        dsimp only at h1
        rw [hr] at h1
        have h1 : (if len = 1 then none else none) = some r := h1
        split at h1 <;> cases h1
    · subst e
      cases hr : am_rd none (T_own j) .arraylength st σ with
      | some q =>
        unfold am_one at h1 ⊢
        rw [hT] at h1 ⊢
        dsimp only at h1 ⊢
        rw [hr] at h1
        rw [am_rdS hr]
        exact h1
      | none =>
        exfalso
        unfold am_one at h1
        rw [hT] at h1
        dsimp only at h1
        rw [hr] at h1
        have h1 : (if len = 1 then none else none) = some r := h1
        split at h1 <;> cases h1
theorem am_evX (X : am_X) : ∀ (n d j pc : Nat) (ls st : List Value) (σ : am_M) (r : Option Value × am_M), am_ev none n d j pc ls st σ = some r → am_ev X n d j pc ls st σ = some r := by
  intro n
  induction n with
  | zero => intro d j pc ls st σ r h; exact absurd h (by intro z; cases z)
  | succ n IH =>
    intro d j pc ls st σ r h
    have h : am_one none (am_ev none n) d j pc ls st σ = some r := h
    show am_one X (am_ev X n) d j pc ls st σ = some r
    exact am_oneX IH h
