/-! METHODS THAT WRITE BUT A FEW FIELDS -/
def nwC (S : List Nat) (o k : Nat) : Bool := match T_call o k with
  | some (kd, m, _) => decide (7 ≤ kd) || S.contains m
  | none => true
def nwI (S : List Nat) (W : List (Nat × Nat)) (o : Nat) (i : Instr) : Bool := match i with
  | .iastore => false
  | .bastore => false
  | .aastore => false
  | .new _ => false
  | .newarray _ => false
  | .anewarray _ => false
  | .putfield k => match T_fld o k with
    | some (ci, f, _) => W.contains (ci, f)
    | none => true
  | .invokestatic k => nwC S o k
  | .invokevirtual k => nwC S o k
  | .invokespecial k => nwC S o k
  | _ => true
def nwJ (S : List Nat) (W : List (Nat × Nat)) : Bool := S.all fun j => (T_insL.getD j []).all fun r => nwI S W (T_own j) r.2.1
def Nk (W : List (Nat × Nat)) (σ σ' : am_M) : Prop := σ'.1 = σ.1 ∧ ∀ a k, σ'.2.1 a k = σ.2.1 a k ∨ ∃ ci n, (ci, k) ∈ W ∧ σ.1[a]? = some (ci, n)
theorem Nk.rf {W : List (Nat × Nat)} {σ : am_M} : Nk W σ σ := ⟨rfl, fun _ _ => Or.inl rfl⟩
theorem Nk.tr {W : List (Nat × Nat)} {σ σ' σ'' : am_M} (h : Nk W σ σ') (h' : Nk W σ' σ'') : Nk W σ σ'' := by
  refine ⟨h'.1.trans h.1, fun a k => ?_⟩
  rcases h'.2 a k with e | ⟨ci, n, e1, e2⟩
  · rcases h.2 a k with q | q
    · exact Or.inl (e.trans q)
    · exact Or.inr q
  · rw [h.1] at e2
    exact Or.inr ⟨ci, n, e1, e2⟩
theorem nw_wr {S : List Nat} {W : List (Nat × Nat)} {o ini n' : Nat} {ii : Instr} {st st' : List Value} {σ σ' : am_M} (hi : nwI S W o ii = true) (h : am_wr o ini ii st σ = some (n', st', σ')) : Nk W σ σ' := by
  unfold am_wr at h
  split at h
  · rename_i k
    split at h
    · rename_i ci f p hf
      split at h
      · split at h
        · rename_i v a r hc
          obtain ⟨s, h1, h2⟩ := Option.map_eq_some_iff.mp h
          cases h2
          have hw : (ci, f) ∈ W := by
            unfold nwI at hi
            dsimp only at hi
            rw [hf] at hi
            exact List.contains_iff_mem.mp hi
          have up : ∀ (x : Int32) (b q : Nat), am_up σ.2.1 a f x b q = σ.2.1 b q ∨ ∃ c n, (c, q) ∈ W ∧ σ.1[b]? = some (c, n) := by
            intro x b q
            rw [am_upv]
            split
            · rename_i e
              rw [e.1, e.2]
              exact Or.inr ⟨ci, _, hw, hc.1⟩
            · exact Or.inl rfl
          unfold am_pf at h1
          split at h1
          · cases h1
            exact ⟨rfl, fun _ _ => Or.inl rfl⟩
          · cases h1
            exact ⟨rfl, up _⟩
          · split at h1
            · cases h1
              exact ⟨rfl, up _⟩
            · cases h1
          · split at h1
            · cases h1
              exact ⟨rfl, fun _ _ => Or.inl rfl⟩
            · cases h1
          · split at h1
            · cases h1
              exact ⟨rfl, fun _ _ => Or.inl rfl⟩
            · cases h1
          · cases h1
        · cases h
      · cases h
    · cases h
  · cases hi
  · cases hi
  · cases hi
  · cases h
theorem nw_al {S : List Nat} {W : List (Nat × Nat)} {o n' : Nat} {ii : Instr} {st st' : List Value} {σ σ' : am_M} (hi : nwI S W o ii = true) (h : am_al o ii st σ = some (n', st', σ')) : False := by
  unfold am_al at h
  split at h
  · cases hi
  · cases hi
  · cases hi
  · cases h
theorem nw_ca {S : List Nat} {W : List (Nat × Nat)} {o : Nat} {ii : Instr} {st r : List Value} {σ : am_M} {m : Option (Nat × List Value)} (hi : nwI S W o ii = true) (h : am_ca o ii st σ = some (m, r)) : ∀ k as, m = some (k, as) → k ∈ S := by
  have go : ∀ k kd j (p : Nat × Nat × Nat × Nat × Nat), T_call o k = some (kd, j, p) → nwC S o k = true → kd < 7 → j ∈ S := by
    intro k kd j p e1 e2 e3
    unfold nwC at e2
    rw [e1] at e2
    dsimp only at e2
    rw [decide_eq_false (by omega), Bool.false_or] at e2
    exact List.contains_iff_mem.mp e2
  unfold am_ca at h
  split at h
  · split at h
    · rename_i kd j n p e1
      split at h
      · rename_i hc
        cases h
        intro k as e
        cases e
        exact go _ _ _ _ e1 hi (by omega)
      · cases h
    · cases h
  · split at h
    · rename_i kd j n p e1
      split at h
      · split at h
        · rename_i hc
          cases h
          intro k as e
          cases e
          exact go _ _ _ _ e1 hi (by omega)
        · cases h
      · cases h
    · cases h
  · split at h
    · rename_i kd j n p e1
      split at h
      · split at h
        · split at h
          · rename_i hc
            cases h
            intro k as e
            cases e
            exact go _ _ _ _ e1 hi (by omega)
          · split at h
            · cases h
              intro k as e
              cases e
            · cases h
        · cases h
      · cases h
    · cases h
  · cases h
theorem am_nw {X : am_X} {S : List Nat} {W : List (Nat × Nat)} (hS : nwJ S W = true) : ∀ (n d j pc : Nat) (ls st : List Value) (σ : am_M) (v : Option Value) (σ' : am_M), j ∈ S → am_ev X n d j pc ls st σ = some (v, σ') → Nk W σ σ' := by
  intro n
  induction n with
  | zero => intro d j pc ls st σ v σ' _ h; exact absurd h (by intro z; cases z)
  | succ n IH =>
    intro d j pc ls st σ v σ' hj h
    have h : am_one X (am_ev X n) d j pc ls st σ = some (v, σ') := h
    unfold am_one at h
    split at h
    · cases h
    · rename_i i len hT
      have hi : nwI S W (T_own j) i = true := List.all_eq_true.mp (List.all_eq_true.mp hS j hj) _ (am_lk hT)
      split at h
      · split at h
        · exact IH _ _ _ _ _ _ _ _ hj h
        · cases h
      · split at h
        · split at h
          · split at h
            · exact IH _ _ _ _ _ _ _ _ hj h
            · exact IH _ _ _ _ _ _ _ _ hj h
          · cases h
        · split at h
          · split at h
            · exact IH _ _ _ _ _ _ _ _ hj h
            · cases h
          · split at h
            · split at h
              · exact IH _ _ _ _ _ _ _ _ hj h
              · cases h
            · split at h
              · rename_i hb
                have q := nw_wr hi hb
                split at h
                · exact q.tr (IH _ _ _ _ _ _ _ _ hj h)
                · cases h
              · split at h
                · rename_i hb
                  exact (nw_al hi hb).elim
                · split at h
                  · rename_i hb
                    have q := nw_ca hi hb
                    split at h
                    · split at h
                      · rename_i he
                        exact (IH _ _ _ _ _ _ _ _ (q _ _ rfl) he).tr (IH _ _ _ _ _ _ _ _ hj h)
                      · cases h
                    · cases h
                  · split at h
                    · exact IH _ _ _ _ _ _ _ _ hj h
                    · cases h
                  · split at h
                    · split at h
                      · exact IH _ _ _ _ _ _ _ _ hj h
                      · cases h
                    · split at h
                      · obtain ⟨w, h1, h2⟩ := Option.map_eq_some_iff.mp h
                        cases h2
                        exact Nk.rf
                      · cases h
theorem am_wp_nw {X : am_X} {S : List Nat} {W : List (Nat × Nat)} (hS : nwJ S W = true) {d j pc : Nat} {ls st : List Value} {σ : am_M} {Q : Option Value → am_M → Prop} (hj : j ∈ S) (h : am_wp X d j pc ls st σ Q) : am_wp X d j pc ls st σ (fun v σ' => Q v σ' ∧ Nk W σ σ') := by
  obtain ⟨n, v, s, e, q⟩ := h
  exact ⟨n, v, s, e, q, am_nw hS _ _ _ _ _ _ _ _ _ hj e⟩
