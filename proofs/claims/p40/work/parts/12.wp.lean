/-! RUNS OF THE ABSTRACT MACHINE: am_wp .. Q: it comes to an end, with Q -/
theorem am_more1 {X : am_X} {f g : Nat → Nat → Nat → List Value → List Value → am_M → Option (Option Value × am_M)} (hfg : ∀ d j pc ls st σ r, f d j pc ls st σ = some r → g d j pc ls st σ = some r) {d j pc : Nat} {ls st : List Value} {σ : am_M} {r : Option Value × am_M} (h : am_one X f d j pc ls st σ = some r) : am_one X g d j pc ls st σ = some r := by
  unfold am_one at h ⊢
  split at h
  · cases h
  · rename_i i len hT
    split at h
    · rename_i L ls' st' hp
      split at h
      · rename_i hL
        rw [if_pos hL]
        exact hfg _ _ _ _ _ _ _ h
      · cases h
    · split at h
      · split at h
        · rename_i hL
          rw [if_pos hL]
          split at h
          · rename_i hc
            rw [if_pos hc]
            exact hfg _ _ _ _ _ _ _ h
          · rename_i hc
            rw [if_neg hc]
            exact hfg _ _ _ _ _ _ _ h
        · cases h
      · split at h
        · split at h
          · rename_i hL
            rw [if_pos hL]
            exact hfg _ _ _ _ _ _ _ h
          · cases h
        · split at h
          · split at h
            · rename_i hL
              rw [if_pos hL]
              exact hfg _ _ _ _ _ _ _ h
            · cases h
          · split at h
            · split at h
              · rename_i hL
                rw [if_pos hL]
                exact hfg _ _ _ _ _ _ _ h
              · cases h
            · split at h
              · split at h
                · rename_i hL
                  rw [if_pos hL]
                  exact hfg _ _ _ _ _ _ _ h
                · cases h
              · split at h
                · split at h
                  · rename_i hL
                    rw [if_pos hL]
                    split at h
                    · rename_i v σ' he
                      rw [hfg _ _ _ _ _ _ _ he]
                      exact hfg _ _ _ _ _ _ _ h
                    · cases h
                  · cases h
                · split at h
                  · rename_i hL
                    rw [if_pos hL]
                    exact hfg _ _ _ _ _ _ _ h
                  · cases h
                · split at h
                  · split at h
                    · rename_i hL
                      rw [if_pos hL]
                      exact hfg _ _ _ _ _ _ _ h
                    · cases h
                  · exact h
theorem am_more_1 (X : am_X) : ∀ (n d j pc : Nat) (ls st : List Value) (σ : am_M) (r : Option Value × am_M), am_ev X n d j pc ls st σ = some r → am_ev X (n + 1) d j pc ls st σ = some r := by
  intro n
  induction n with
  | zero => intro d j pc ls st σ r h; exact absurd h (by intro z; cases z)
  | succ n IH =>
    intro d j pc ls st σ r h
    have h : am_one X (am_ev X n) d j pc ls st σ = some r := h
    show am_one X (am_ev X (n + 1)) d j pc ls st σ = some r
    exact am_more1 IH h
theorem am_more {X : am_X} {n k d j pc : Nat} {ls st : List Value} {σ : am_M} {r : Option Value × am_M} (h : am_ev X n d j pc ls st σ = some r) (hk : n ≤ k) : am_ev X k d j pc ls st σ = some r := by
  induction hk with
  | refl => exact h
  | step _ ih => exact am_more_1 X _ _ _ _ _ _ _ _ ih
def am_wp (X : am_X) (d j pc : Nat) (ls st : List Value) (σ : am_M) (Q : Option Value → am_M → Prop) : Prop := ∃ n v σ', am_ev X n d j pc ls st σ = some (v, σ') ∧ Q v σ'
section AMP
variable {X : am_X} {d j pc len : Nat} {ls st : List Value} {σ : am_M} {Q Q' : Option Value → am_M → Prop} {i : Instr}
theorem am_wp_one : am_wp X d j pc ls st σ Q = ∃ n v σ', am_one X (am_ev X n) d j pc ls st σ = some (v, σ') ∧ Q v σ' := by
  refine propext ⟨fun h => ?_, fun h => ?_⟩
  · obtain ⟨n, v, σ', h, hq⟩ := h
    cases n with
    | zero => exact absurd h (by intro z; cases z)
    | succ n => exact ⟨n, v, σ', h, hq⟩
  · obtain ⟨n, v, σ', h, hq⟩ := h
    exact ⟨n + 1, v, σ', h, hq⟩
theorem am_wp_to (h : am_wp X d j pc ls st σ Q') (hq : ∀ v σ', Q' v σ' → Q v σ') : am_wp X d j pc ls st σ Q := by
  obtain ⟨n, v, σ', h, h2⟩ := h
  exact ⟨n, v, σ', h, hq _ _ h2⟩
theorem am_wp_pi (hi : T_ins j pc = some (i, len)) {ls' st' : List Value} (hp : am_pi (T_own j) i ls st = some (len, ls', st')) : am_wp X d j pc ls st σ Q = am_wp X d j (pc + len) ls' st' σ Q := by
  rw [am_wp_one]
  have : ∀ n, am_one X (am_ev X n) d j pc ls st σ = am_ev X n d j (pc + len) ls' st' σ := by
    intro n
    unfold am_one
    rw [hi]
    dsimp only
    rw [hp]
    dsimp only
    rw [if_pos rfl]
  simp only [this]
  rfl
theorem am_wp_bi (hi : T_ins j pc = some (i, 3)) (h1 : am_pi (T_own j) i ls st = none) {c : Bool} {off : Int} {st' : List Value} (hp : am_bi i st = some (c, off, st')) {t : Nat} (ht : (pc : Int) + off = (t : Int)) : am_wp X d j pc ls st σ Q = if c = true then am_wp X d j t ls st' σ Q else am_wp X d j (pc + 3) ls st' σ Q := by
  rw [am_wp_one]
  have : ∀ n, am_one X (am_ev X n) d j pc ls st σ = if c = true then am_ev X n d j t ls st' σ else am_ev X n d j (pc + 3) ls st' σ := by
    intro n
    unfold am_one
    rw [hi]
    dsimp only
    rw [h1]
    dsimp only
    rw [hp]
    dsimp only
    rw [if_pos ⟨rfl, by rw [ht]; exact Int.natCast_nonneg t⟩, ht, Int.toNat_natCast]
  simp only [this]
  cases c
  · rfl
  · rfl
theorem am_wp_sw (hi : T_ins j pc = some (i, len)) (h1 : am_pi (T_own j) i ls st = none) (h2 : am_bi i st = none) {off : Int} {st' : List Value} (hp : am_sw i st = some (off, st')) {t : Nat} (ht : (pc : Int) + off = (t : Int)) : am_wp X d j pc ls st σ Q = am_wp X d j t ls st' σ Q := by
  rw [am_wp_one]
  have : ∀ n, am_one X (am_ev X n) d j pc ls st σ = am_ev X n d j t ls st' σ := by
    intro n
    unfold am_one
    rw [hi]
    dsimp only
    rw [h1]
    dsimp only
    rw [h2]
    dsimp only
    rw [hp]
    dsimp only
    rw [if_pos (by rw [ht]; exact Int.natCast_nonneg t), ht, Int.toNat_natCast]
  simp only [this]
  rfl
theorem am_wp_rd (hi : T_ins j pc = some (i, len)) (h1 : am_pi (T_own j) i ls st = none) (h2 : am_bi i st = none) (h3 : am_sw i st = none) {st' : List Value} (hp : am_rd X (T_own j) i st σ = some (len, st')) : am_wp X d j pc ls st σ Q = am_wp X d j (pc + len) ls st' σ Q := by
  rw [am_wp_one]
  have : ∀ n, am_one X (am_ev X n) d j pc ls st σ = am_ev X n d j (pc + len) ls st' σ := by
    intro n
    unfold am_one
    rw [hi]
    dsimp only
    rw [h1]
    dsimp only
    rw [h2]
    dsimp only
    rw [h3]
    dsimp only
    rw [hp]
    dsimp only
    rw [if_pos rfl]
  simp only [this]
  rfl
theorem am_wp_wr (hi : T_ins j pc = some (i, len)) (h1 : am_pi (T_own j) i ls st = none) (h2 : am_bi i st = none) (h3 : am_sw i st = none) (h4 : am_rd X (T_own j) i st σ = none) {st' : List Value} {σ' : am_M} (hp : am_wr (T_own j) (T_ini j) i st σ = some (len, st', σ')) : am_wp X d j pc ls st σ Q = am_wp X d j (pc + len) ls st' σ' Q := by
  rw [am_wp_one]
  have : ∀ n, am_one X (am_ev X n) d j pc ls st σ = am_ev X n d j (pc + len) ls st' σ' := by
    intro n
    unfold am_one
    rw [hi]
    dsimp only
    rw [h1]
    dsimp only
    rw [h2]
    dsimp only
    rw [h3]
    dsimp only
    rw [h4]
    dsimp only
    rw [hp]
    dsimp only
    rw [if_pos rfl]
  simp only [this]
  rfl
theorem am_wp_al (hi : T_ins j pc = some (i, len)) (h1 : am_pi (T_own j) i ls st = none) (h2 : am_bi i st = none) (h3 : am_sw i st = none) (h4 : am_rd X (T_own j) i st σ = none) (h5 : am_wr (T_own j) (T_ini j) i st σ = none) {st' : List Value} {σ' : am_M} (hp : am_al (T_own j) i st σ = some (len, st', σ')) : am_wp X d j pc ls st σ Q = am_wp X d j (pc + len) ls st' σ' Q := by
  rw [am_wp_one]
  have : ∀ n, am_one X (am_ev X n) d j pc ls st σ = am_ev X n d j (pc + len) ls st' σ' := by
    intro n
    unfold am_one
    rw [hi]
    dsimp only
    rw [h1]
    dsimp only
    rw [h2]
    dsimp only
    rw [h3]
    dsimp only
    rw [h4]
    dsimp only
    rw [h5]
    dsimp only
    rw [hp]
    dsimp only
    rw [if_pos rfl]
  simp only [this]
  rfl
theorem am_wp_ca (hi : T_ins j pc = some (i, 3)) (h1 : am_pi (T_own j) i ls st = none) (h2 : am_bi i st = none) (h3 : am_sw i st = none) (h4 : am_rd X (T_own j) i st σ = none) (h5 : am_wr (T_own j) (T_ini j) i st σ = none) (h6 : am_al (T_own j) i st σ = none) {k : Nat} {as r : List Value} (hp : am_ca (T_own j) i st σ = some (some (k, as), r)) (hfl : (am_fl as).length ≤ T_mxl k) :
    am_wp X (d + 1) j pc ls st σ Q = am_wp X d k 0 (am_en (T_mxl k) as) [] σ (fun v σ' => am_wp X (d + 1) j (pc + 3) ls (v.toList ++ r) σ' Q) := by
  rw [am_wp_one]
  have : ∀ n, am_one X (am_ev X n) (d + 1) j pc ls st σ = match am_ev X n d k 0 (am_en (T_mxl k) as) [] σ with
      | some (v, σ') => am_ev X n (d + 1) j (pc + 3) ls (v.toList ++ r) σ'
      | none => none := by
    intro n
    unfold am_one
    rw [hi]
    dsimp only
    rw [h1]
    dsimp only
    rw [h2]
    dsimp only
    rw [h3]
    dsimp only
    rw [h4]
    dsimp only
    rw [h5]
    dsimp only
    rw [h6]
    dsimp only
    rw [hp]
    dsimp only
    rw [if_pos ⟨rfl, Nat.succ_pos d, hfl⟩, Nat.add_sub_cancel]
    cases am_ev X n d k 0 (am_en (T_mxl k) as) [] σ <;> rfl
  refine propext ⟨fun h => ?_, fun h => ?_⟩
  · obtain ⟨n, v, σ', h, hq⟩ := h
    rw [this] at h
    cases he : am_ev X n d k 0 (am_en (T_mxl k) as) [] σ with
    | none => rw [he] at h; cases h
    | some w =>
      obtain ⟨w, σ1⟩ := w
      rw [he] at h
      exact ⟨n, w, σ1, he, n, v, σ', h, hq⟩
  · obtain ⟨n1, w, σ1, h1, n2, v, σ', h2, hq⟩ := h
    refine ⟨n1 + n2, v, σ', ?_, hq⟩
    rw [this, am_more h1 (Nat.le_add_right n1 n2)]
    exact am_more h2 (Nat.le_add_left n2 n1)
theorem am_wp_in (hi : T_ins j pc = some (i, 3)) (h1 : am_pi (T_own j) i ls st = none) (h2 : am_bi i st = none) (h3 : am_sw i st = none) (h4 : am_rd X (T_own j) i st σ = none) (h5 : am_wr (T_own j) (T_ini j) i st σ = none) (h6 : am_al (T_own j) i st σ = none) {r : List Value} (hp : am_ca (T_own j) i st σ = some (none, r)) : am_wp X (d + 1) j pc ls st σ Q = am_wp X (d + 1) j (pc + 3) ls r σ Q := by
  rw [am_wp_one]
  have : ∀ n, am_one X (am_ev X n) (d + 1) j pc ls st σ = am_ev X n (d + 1) j (pc + 3) ls r σ := by
    intro n
    unfold am_one
    rw [hi]
    dsimp only
    rw [h1]
    dsimp only
    rw [h2]
    dsimp only
    rw [h3]
    dsimp only
    rw [h4]
    dsimp only
    rw [h5]
    dsimp only
    rw [h6]
    dsimp only
    rw [hp]
    dsimp only
    rw [if_pos ⟨rfl, Nat.succ_pos d⟩]
  simp only [this]
  rfl
theorem am_wp_ma (hi : T_ins j pc = some (i, 3)) (h1 : am_pi (T_own j) i ls st = none) (h2 : am_bi i st = none) (h3 : am_sw i st = none) (h4 : am_rd X (T_own j) i st σ = none) (h5 : am_wr (T_own j) (T_ini j) i st σ = none) (h6 : am_al (T_own j) i st σ = none) (h7 : am_ca (T_own j) i st σ = none) {st' : List Value} (hp : am_ma (T_own j) i st = some st') : am_wp X (d + 1) j pc ls st σ Q = am_wp X (d + 1) j (pc + 3) ls st' σ Q := by
  rw [am_wp_one]
  have : ∀ n, am_one X (am_ev X n) (d + 1) j pc ls st σ = am_ev X n (d + 1) j (pc + 3) ls st' σ := by
    intro n
    unfold am_one
    rw [hi]
    dsimp only
    rw [h1]
    dsimp only
    rw [h2]
    dsimp only
    rw [h3]
    dsimp only
    rw [h4]
    dsimp only
    rw [h5]
    dsimp only
    rw [h6]
    dsimp only
    rw [h7]
    dsimp only
    rw [hp]
    dsimp only
    rw [if_pos ⟨rfl, Nat.succ_pos d⟩]
  simp only [this]
  rfl
theorem am_wp_rt (hi : T_ins j pc = some (i, 1)) (h1 : am_pi (T_own j) i ls st = none) (h2 : am_bi i st = none) (h3 : am_sw i st = none) (h4 : am_rd X (T_own j) i st σ = none) (h5 : am_wr (T_own j) (T_ini j) i st σ = none) (h6 : am_al (T_own j) i st σ = none) (h7 : am_ca (T_own j) i st σ = none) (h8 : am_ma (T_own j) i st = none) {v : Option Value} (hp : am_rt (T_ret j) i st = some v) : am_wp X d j pc ls st σ Q = Q v σ := by
  rw [am_wp_one]
  have : ∀ n, am_one X (am_ev X n) d j pc ls st σ = some (v, σ) := by
    intro n
    unfold am_one
    rw [hi]
    dsimp only
    rw [h1]
    dsimp only
    rw [h2]
    dsimp only
    rw [h3]
    dsimp only
    rw [h4]
    dsimp only
    rw [h5]
    dsimp only
    rw [h6]
    dsimp only
    rw [h7]
    dsimp only
    rw [h8]
    dsimp only
    rw [if_pos rfl, hp]
    rfl
  refine propext ⟨fun h => ?_, fun h => ?_⟩
  · obtain ⟨n, w, σ', h, hq⟩ := h
    rw [this] at h
    cases h
    exact hq
  · exact ⟨0, v, σ, this 0, h⟩
end AMP
