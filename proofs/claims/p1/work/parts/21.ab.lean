/-! P1: WHAT EACH CALL ANSWERS ON FRESH OBJECTS -/
def p1_A (I : Nat → Nat → Int32) : Prop := I 1 1 = 0 ∧ I 35 2 = 0 ∧ I 91 4 = 0 ∧ I 83 5 = 0 ∧ I 87 1 = 0 ∧ I 88 1 = 0 ∧ I 0 7 = 0 ∧ I 0 8 = 0 ∧ ∀ k, k < 4 → I (97 + 2 * k) 1 = 0
def p1_B (I : Nat → Nat → Int32) : Prop := I 105 0 = 0 ∧ I 105 1 = 0 ∧ I 105 2 = 0 ∧ I 105 21 = 0 ∧ I 105 26 = 0 ∧ ∀ k, k < 4 → I 121 k = -9
theorem p1_B.ag {I I' : Nat → Nat → Int32} (h : p1_B I) (g : am_ag I I') : p1_B I' := by
  unfold p1_B at h ⊢
  rw [g 105 (by decide), g 121 (by decide)]
  exact h
theorem am_qi {Q : Option Value → am_M → Prop} {r r' : Int32} {σ : am_M} (e : r = r') (k : Q (some (.int r)) σ) : Q (some (.int r')) σ := e ▸ k
theorem am_ixz {x : Int32} {n : Nat} (h : x = 0) (hn : 0 < n) : am_ix x n := by
  subst h
  exact oi_ix (a := 0) (by omega) (by omega) (by omega)
theorem am_le0 {x : Int32} (h : x = 0) : x ≤ 0 := h ▸ Int32.le_refl 0
theorem am_w0 {x a b : Int32} (h : v_within x a b = 0) : x < a ∨ b < x := by
  unfold v_within at h
  by_cases h1 : x < a
  · exact Or.inl h1
  · rw [if_neg h1] at h
    by_cases h2 : b < x
    · exact Or.inr h2
    · rw [if_neg h2] at h
      exact absurd h (by decide)
theorem am_w1 {x a b : Int32} (h : ¬ v_within x a b = 0) : ¬ x < a ∧ ¬ b < x := by
  unfold v_within at h
  by_cases h1 : x < a
  · rw [if_pos h1] at h
    exact absurd rfl h
  · rw [if_neg h1] at h
    by_cases h2 : b < x
    · rw [if_pos h2] at h
      exact absurd rfl h
    · exact ⟨h1, h2⟩
theorem am_34 {x : Int32} (h : 3 < x) : ¬ x < 0 ∧ 4 ≤ x := by
  obtain ⟨z, rfl, h1, h2⟩ := oi_of x
  have h : Int32.ofInt 3 < Int32.ofInt z := h
  rw [oi_lt (by omega) (by omega)] at h
  constructor
  · intro q
    have q : Int32.ofInt z < Int32.ofInt 0 := q
    rw [oi_lt (by omega) (by omega)] at q
    omega
  · show Int32.ofInt 4 ≤ Int32.ofInt z
    rw [oi_le (by omega) (by omega)]
    omega
theorem am_43 {x : Int32} (h : ¬ 3 < x) : ¬ 4 ≤ x := by
  obtain ⟨z, rfl, h1, h2⟩ := oi_of x
  have h : ¬ Int32.ofInt 3 < Int32.ofInt z := h
  rw [oi_lt (by omega) (by omega)] at h
  intro q
  have q : Int32.ofInt 4 ≤ Int32.ofInt z := q
  rw [oi_le (by omega) (by omega)] at q
  omega
theorem am_01 {x : Int32} (h : ¬ v_within x 0 1 = 0) : x = 0 ∨ x = 1 := by
  obtain ⟨g1, g2⟩ := am_w1 h
  obtain ⟨z, rfl, h1, h2⟩ := oi_of x
  have g1 : ¬ Int32.ofInt z < Int32.ofInt 0 := g1
  have g2 : ¬ Int32.ofInt 1 < Int32.ofInt z := g2
  rw [oi_lt (by omega) (by omega)] at g1 g2
  have : z = 0 ∨ z = 1 := by omega
  rcases this with rfl | rfl
  · exact Or.inl rfl
  · exact Or.inr rfl
def q_house (x0 x1 x2 x3 x4 : Int32) : Int32 := if v_isWithin x0 0 2 = 0 then -2 else if v_isPlace x1 x2 = 0 then -2 else if v_isForce x3 = 0 then -2 else if v_isForce x4 = 0 then -2 else 0
def q_shake (x0 x1 x2 x3 x4 x5 : Int32) : Int32 := if v_isShake x0 x1 x2 x3 x4 = 0 then -2 else if v_isTime x5 = 0 then -2 else 0
def q_was (x0 x1 x2 x3 : Int32) : Int32 := if v_isPlace x0 x1 = 0 then -2 else if v_isWithin x2 1 12 = 0 then -2 else if v_isTime x3 = 0 then -2 else 0
def q_sheet (x0 x1 x2 : Int32) : Int32 := if x0 < 0 then -1 else if 4 ≤ x0 then -1 else if v_isLane x1 = 0 then -2 else if x2 ≤ 40 then (if 0 ≤ x2 then 1 else -14) else -2
def q_lose (x0 : Int32) : Int32 := if x0 < 0 then -1 else if 4 ≤ x0 then -1 else 0
def q_put (x0 : Int32) : Int32 := if x0 < 0 then -1 else if 4 ≤ x0 then -1 else -11
def q_fam (x0 : Int32) : Int32 := if x0 = 0 ∨ x0 = 1 then 0 else -2
def q_many (x0 : Int32) : Int32 := if x0 = 0 ∨ x0 = 1 ∨ x0 = 2 ∨ x0 = 3 ∨ x0 = 4 ∨ x0 = 5 then 0 else -2
theorem a_78 {X : am_X} {d : Nat} {I : Nat → Nat → Int32} {J : Nat → Nat → Int64} {Q : Option Value → am_M → Prop} {x0 : Int32} {x1 : Int32} {x2 : Int32} (hA : p1_A I) (k : ∀ I' J', am_ag I I' → Q (some (.int (-1))) (am_N I' J')) : am_wp X (d + 3) 78 0 [.ref 0, .int x0, .int x1, .int x2, am_uv, am_uv] [] (am_N I J) Q := c_78 ⟨hA.1, k _ _ am_ag.rf⟩
theorem a_81 {X : am_X} {d : Nat} {I : Nat → Nat → Int32} {J : Nat → Nat → Int64} {Q : Option Value → am_M → Prop} {x0 : Int32} {x1 : Int32} {x2 : Int32} (hA : p1_A I) (k : ∀ I' J', am_ag I I' → Q (some (.int (-1))) (am_N I' J')) : am_wp X (d + 1) 81 0 [.ref 0, .int x0, .int x1, .int x2, am_uv] [] (am_N I J) Q := c_81 ⟨hA.1, k _ _ am_ag.rf⟩
theorem a_82 {X : am_X} {d : Nat} {I : Nat → Nat → Int32} {J : Nat → Nat → Int64} {Q : Option Value → am_M → Prop} {x0 : Int32} {x1 : Int32} (hA : p1_A I) (k : ∀ I' J', am_ag I I' → Q (some (.int (-1))) (am_N I' J')) : am_wp X (d + 1) 82 0 [.ref 0, .int x0, .int x1, am_uv, am_uv] [] (am_N I J) Q := c_82 ⟨hA.1, k _ _ am_ag.rf⟩
theorem a_83 {X : am_X} {d : Nat} {I : Nat → Nat → Int32} {J : Nat → Nat → Int64} {Q : Option Value → am_M → Prop} {x0 : Int32} (hA : p1_A I) (k : ∀ I' J', am_ag I I' → Q (some (.int (-1))) (am_N I' J')) : am_wp X (d + 2) 83 0 [.ref 0, .int x0, am_uv] [] (am_N I J) Q := c_83 ⟨hA.1, k _ _ am_ag.rf⟩
theorem a_84 {X : am_X} {d : Nat} {I : Nat → Nat → Int32} {J : Nat → Nat → Int64} {Q : Option Value → am_M → Prop} {x0 : Int32} {x1 : Int32} (hA : p1_A I) (k : ∀ I' J', am_ag I I' → Q (some (.int (-1))) (am_N I' J')) : am_wp X (d + 2) 84 0 [.ref 0, .int x0, .int x1, am_uv] [] (am_N I J) Q := c_84 ⟨hA.1, k _ _ am_ag.rf⟩
theorem a_86 {X : am_X} {d : Nat} {I : Nat → Nat → Int32} {J : Nat → Nat → Int64} {Q : Option Value → am_M → Prop} {x0 : Int32} {x1 : Int32} {x2 : Int32} (hA : p1_A I) (k : ∀ I' J', am_ag I I' → Q (some (.int (-1))) (am_N I' J')) : am_wp X (d + 1) 86 0 [.ref 0, .int x0, .int x1, .int x2, am_uv] [] (am_N I J) Q := c_86 ⟨hA.1, k _ _ am_ag.rf⟩
theorem a_87 {X : am_X} {d : Nat} {I : Nat → Nat → Int32} {J : Nat → Nat → Int64} {Q : Option Value → am_M → Prop} {x0 : Int32} {x1 : Int32} {x2 : Int32} {x3 : Int32} {x4 : Int32} {x5 : Int32} {x6 : Int32} (hA : p1_A I) (k : ∀ I' J', am_ag I I' → Q (some (.int (-1))) (am_N I' J')) : am_wp X (d + 3) 87 0 [.ref 0, .int x0, .int x1, .int x2, .int x3, .int x4, .int x5, .int x6, am_uv, am_uv] [] (am_N I J) Q := c_87 ⟨hA.1, k _ _ am_ag.rf⟩
theorem a_89 {X : am_X} {d : Nat} {I : Nat → Nat → Int32} {J : Nat → Nat → Int64} {Q : Option Value → am_M → Prop} {x0 : Int32} {x1 : Int32} {x2 : Int32} {x3 : Int32} (hA : p1_A I) (k : ∀ I' J', am_ag I I' → Q (some (.int (-1))) (am_N I' J')) : am_wp X (d + 3) 89 0 [.ref 0, .int x0, .int x1, .int x2, .int x3, am_uv] [] (am_N I J) Q := c_89 ⟨hA.1, k _ _ am_ag.rf⟩
theorem a_90 {X : am_X} {d : Nat} {I : Nat → Nat → Int32} {J : Nat → Nat → Int64} {Q : Option Value → am_M → Prop} {x0 : Int32} (hA : p1_A I) (k : ∀ I' J', am_ag I I' → Q (some (.int (-1))) (am_N I' J')) : am_wp X (d + 2) 90 0 [.ref 0, .int x0, am_uv, am_uv, am_uv] [] (am_N I J) Q := c_90 ⟨hA.1, k _ _ am_ag.rf⟩
theorem a_97 {X : am_X} {d : Nat} {I : Nat → Nat → Int32} {J : Nat → Nat → Int64} {Q : Option Value → am_M → Prop} {x0 : Int32} (hA : p1_A I) (k : ∀ I' J', am_ag I I' → Q (some (.int (-1))) (am_N I' J')) : am_wp X (d + 6) 97 0 [.ref 0, .int x0, am_uv] [] (am_N I J) Q := c_97 ⟨hA.1, k _ _ am_ag.rf⟩
theorem a_112 {X : am_X} {d : Nat} {I : Nat → Nat → Int32} {J : Nat → Nat → Int64} {Q : Option Value → am_M → Prop} {x0 : Int32} (hA : p1_A I) (k : ∀ I' J', am_ag I I' → Q (some (.int (-1))) (am_N I' J')) : am_wp X (d + 4) 112 0 [.ref 0, .int x0, am_uv] [] (am_N I J) Q := c_112 ⟨hA.1, k _ _ am_ag.rf⟩
theorem a_116 {X : am_X} {d : Nat} {I : Nat → Nat → Int32} {J : Nat → Nat → Int64} {Q : Option Value → am_M → Prop} {x0 : Int32} (hA : p1_A I) (k : ∀ I' J', am_ag I I' → Q (some (.int (-1))) (am_N I' J')) : am_wp X (d + 1) 116 0 [.ref 0, .int x0, am_uv] [] (am_N I J) Q := c_116 ⟨hA.1, k _ _ am_ag.rf⟩
theorem a_118 {X : am_X} {d : Nat} {I : Nat → Nat → Int32} {J : Nat → Nat → Int64} {Q : Option Value → am_M → Prop} {x0 : Int32} {x1 : Int32} (hA : p1_A I) (k : ∀ I' J', am_ag I I' → Q (some (.int (-1))) (am_N I' J')) : am_wp X (d + 1) 118 0 [.ref 0, .int x0, .int x1, am_uv] [] (am_N I J) Q := c_118 ⟨hA.1, k _ _ (am_ag.rf.up (by decide))⟩
theorem a_85 {X : am_X} {d : Nat} {I : Nat → Nat → Int32} {J : Nat → Nat → Int64} {Q : Option Value → am_M → Prop} {x0 : Int32} (hA : p1_A I) (k : ∀ I' J', am_ag I I' → Q (some (.long (-9223372036854775808))) (am_N I' J')) : am_wp X (d + 1) 85 0 [.ref 0, .int x0, am_uv] [] (am_N I J) Q := c_85 ⟨hA.1, k _ _ am_ag.rf⟩
theorem a_91 {X : am_X} {d : Nat} {I : Nat → Nat → Int32} {J : Nat → Nat → Int64} {Q : Option Value → am_M → Prop} {x0 : Int32} {x1 : Int32} (hA : p1_A I) (k : ∀ I' J', am_ag I I' → Q (some (.int (-1))) (am_N I' J')) : am_wp X (d + 1) 91 0 [.ref 0, .int x0, .int x1, am_uv] [] (am_N I J) Q := c_91 ⟨hA.2.1, k _ _ am_ag.rf⟩
theorem a_99 {X : am_X} {d : Nat} {I : Nat → Nat → Int32} {J : Nat → Nat → Int64} {Q : Option Value → am_M → Prop} {x0 : Int32} (hA : p1_A I) (k : ∀ I' J', am_ag I I' → Q (some (.int (-1))) (am_N I' J')) : am_wp X (d + 6) 99 0 [.ref 0, .int x0, am_uv] [] (am_N I J) Q := c_99 ⟨hA.2.1, k _ _ am_ag.rf⟩
theorem a_101 {X : am_X} {d : Nat} {I : Nat → Nat → Int32} {J : Nat → Nat → Int64} {Q : Option Value → am_M → Prop} {x0 : Int32} (hA : p1_A I) (k : ∀ I' J', am_ag I I' → Q (some (.int (-1))) (am_N I' J')) : am_wp X (d + 6) 101 0 [.ref 0, .int x0, am_uv] [] (am_N I J) Q := c_101 ⟨hA.2.1, k _ _ am_ag.rf⟩
theorem a_92 {X : am_X} {d : Nat} {I : Nat → Nat → Int32} {J : Nat → Nat → Int64} {Q : Option Value → am_M → Prop} {x0 : Int32} {x1 : Int32} (hA : p1_A I) (k : ∀ I' J', am_ag I I' → Q (some (.int (-99))) (am_N I' J')) : am_wp X (d + 1) 92 0 [.ref 0, .int x0, .int x1, am_uv] [] (am_N I J) Q := c_92 ⟨hA.2.1, k _ _ am_ag.rf⟩
theorem a_79 {X : am_X} {d : Nat} {I : Nat → Nat → Int32} {J : Nat → Nat → Int64} {Q : Option Value → am_M → Prop} {x0 : Int32} {x1 : Int32} {x2 : Int32} {x3 : Int32} {x4 : Int32} (hA : p1_A I) (k : ∀ I' J', am_ag I I' → Q (some (.int (-1))) (am_N I' J')) : am_wp X (d + 4) 79 0 [.ref 0, .int x0, .int x1, .int x2, .int x3, .int x4, am_uv, am_uv, am_uv] [] (am_N I J) Q := c_79 ⟨hA.1, fun _ => k _ _ (am_ag.rf.up (by decide)), fun h1 => ⟨fun _ => k _ _ (am_ag.rf.up (by decide)), fun h2 => ⟨am_ix_of rfl (by decide) h1 h2, k _ _ (am_ag.rf.up (by decide))⟩⟩⟩
theorem a_104 {X : am_X} {d : Nat} {I : Nat → Nat → Int32} {J : Nat → Nat → Int64} {Q : Option Value → am_M → Prop} {x0 : Int32} {x1 : Int32} {x2 : Int32} {x3 : Int32} {x4 : Int32} {x5 : Int32} {x6 : Int32} (hA : p1_A I) (k : ∀ I' J', am_ag I I' → Q (some (.int (-1))) (am_N I' J')) : am_wp X (d + 6) 104 0 [.ref 0, .int x0, .int x1, .int x2, .int x3, .int x4, .int x5, .int x6, am_uv, am_uv, am_uv] [] (am_N I J) Q := c_104 ⟨hA.1, fun _ => k _ _ (am_ag.rf.up (by decide)), fun h1 => ⟨fun _ => k _ _ (am_ag.rf.up (by decide)), fun h2 => ⟨am_ix_of rfl (by decide) h1 h2, k _ _ (am_ag.rf.up (by decide))⟩⟩⟩
theorem a_93 {X : am_X} {d : Nat} {I : Nat → Nat → Int32} {J : Nat → Nat → Int64} {Q : Option Value → am_M → Prop} (hA : p1_A I) (k : ∀ I' J', am_ag I I' → Q (some (.int (0))) (am_N I' J')) : am_wp X (d + 1) 93 0 [.ref 0, am_uv] [] (am_N I J) Q := c_93 (am_qi hA.2.1.symm (k _ _ ((((am_ag.rf.up (by decide)).up (by decide)).up (by decide)).up (by decide))))
theorem a_119 {X : am_X} {d : Nat} {I : Nat → Nat → Int32} {J : Nat → Nat → Int64} {Q : Option Value → am_M → Prop} (hA : p1_A I) (k : ∀ I' J', am_ag I I' → Q (some (.int (0))) (am_N I' J')) : am_wp X d 119 0 [.ref 0] [] (am_N I J) Q := c_119 (am_qi hA.2.2.2.2.2.2.1.symm (k _ _ am_ag.rf))
theorem a_120 {X : am_X} {d : Nat} {I : Nat → Nat → Int32} {J : Nat → Nat → Int64} {Q : Option Value → am_M → Prop} (hA : p1_A I) (k : ∀ I' J', am_ag I I' → Q (some (.int (0))) (am_N I' J')) : am_wp X d 120 0 [.ref 0] [] (am_N I J) Q := c_120 (am_qi hA.2.2.2.2.2.2.2.1.symm (k _ _ am_ag.rf))
theorem a_106 {X : am_X} {d : Nat} {I : Nat → Nat → Int32} {J : Nat → Nat → Int64} {Q : Option Value → am_M → Prop} {x0 : Int32} {x1 : Int32} (hA : p1_A I) (k : ∀ I' J', am_ag I I' → Q (some (.int (-1))) (am_N I' J')) : am_wp X (d + 5) 106 0 [.ref 0, .int x0, .int x1] [] (am_N I J) Q := c_106 ⟨fun _ => k _ _ am_ag.rf, fun h => ⟨fun h2 => h (by rw [hA.2.2.1] at h2; exact h2), k _ _ am_ag.rf⟩⟩
theorem a_88 {X : am_X} {d : Nat} {I : Nat → Nat → Int32} {J : Nat → Nat → Int64} {Q : Option Value → am_M → Prop} {x0 : Int32} {x1 : Int32} {x2 : Int32} {x3 : Int32} {x4 : Int32} {x5 : Int32} (hA : p1_A I) (k : ∀ I' J', am_ag I I' → Q (some (.int (q_shake x0 x1 x2 x3 x4 x5))) (am_N I' J')) : am_wp X (d + 3) 88 0 [.ref 0, .int x0, .int x1, .int x2, .int x3, .int x4, .int x5, am_uv, am_uv, am_uv, am_uv] [] (am_N I J) Q := by
  refine c_88 ⟨fun h1 => am_qi (by unfold q_shake; rw [if_pos h1]) (k _ _ am_ag.rf), fun h1 => ⟨fun h2 => am_qi (by unfold q_shake; rw [if_neg h1, if_pos h2]) (k _ _ am_ag.rf), fun h2 => ⟨fun h3 => ⟨am_le0 hA.1, fun h4 => ⟨(am_ixz hA.2.2.1 (by decide)), (am_ixz hA.2.2.1 (by decide)), (am_ixz hA.2.2.1 (by decide)), (am_ixz hA.2.2.1 (by decide)), am_qi (by unfold q_shake; rw [if_neg h1, if_neg h2, hA.2.2.1]; decide) (k _ _ (((((am_ag.rf.up (by decide)).up (by decide)).up (by decide)).up (by decide)).up (by decide)))⟩, fun h4 => absurd h3 h4⟩, fun h3 => absurd (show v_chainFull I = 0 by unfold v_chainFull; rw [hA.2.2.1]; decide) h3⟩⟩⟩
theorem a_105 {X : am_X} {d : Nat} {I : Nat → Nat → Int32} {J : Nat → Nat → Int64} {Q : Option Value → am_M → Prop} {x0 : Int32} {x1 : Int32} {x2 : Int32} {x3 : Int32} (hA : p1_A I) (k : ∀ I' J', am_ag I I' → Q (some (.int (q_was x0 x1 x2 x3))) (am_N I' J')) : am_wp X (d + 2) 105 0 [.ref 0, .int x0, .int x1, .int x2, .int x3] [] (am_N I J) Q := by
  refine c_105 ⟨fun h1 => am_qi (by unfold q_was; rw [if_pos h1]) (k _ _ am_ag.rf), fun h1 => ⟨fun h2 => am_qi (by unfold q_was; rw [if_neg h1, if_pos h2]) (k _ _ am_ag.rf), fun h2 => ⟨fun h5 => am_qi (by unfold q_was; rw [if_neg h1, if_neg h2, if_pos h5]) (k _ _ am_ag.rf), fun h5 => ⟨fun h3 => ⟨fun h4 => ⟨(am_ixz hA.2.2.1 (by decide)), (am_ixz hA.2.2.1 (by decide)), (am_ixz hA.2.2.1 (by decide)), (am_ixz hA.2.2.1 (by decide)), am_qi (by unfold q_was; rw [if_neg h1, if_neg h2, if_neg h5, hA.2.2.1]; decide) (k _ _ (((((am_ag.rf.up (by decide)).up (by decide)).up (by decide)).up (by decide)).up (by decide)))⟩, fun h4 => absurd h3 h4⟩, fun h3 => absurd (show v_chainFull I = 0 by unfold v_chainFull; rw [hA.2.2.1]; decide) h3⟩⟩⟩⟩
theorem a_77 {X : am_X} {d : Nat} {I : Nat → Nat → Int32} {J : Nat → Nat → Int64} {Q : Option Value → am_M → Prop} {x0 : Int32} {x1 : Int32} {x2 : Int32} {x3 : Int32} {x4 : Int32} (hA : p1_A I) (k : ∀ I' J', am_ag I I' → Q (some (.int (q_house x0 x1 x2 x3 x4))) (am_N I' J')) : am_wp X (d + 2) 77 0 [.ref 0, .int x0, .int x1, .int x2, .int x3, .int x4] [] (am_N I J) Q := by
  refine c_77 ⟨fun h1 => am_qi (by unfold q_house; rw [if_pos h1]) (k _ _ am_ag.rf), fun h1 => ⟨fun h2 => am_qi (by unfold q_house; rw [if_neg h1, if_pos h2]) (k _ _ am_ag.rf), fun h2 => ⟨fun h3 => am_qi (by unfold q_house; rw [if_neg h1, if_neg h2, if_pos h3]) (k _ _ am_ag.rf), fun h3 => ⟨fun h4 => am_qi (by unfold q_house; rw [if_neg h1, if_neg h2, if_neg h3, if_pos h4]) (k _ _ am_ag.rf), fun h4 => ⟨fun h5 => ⟨fun h6 => ⟨am_ixz hA.1 (by decide), ?_⟩, fun h6 => absurd h5 h6⟩, fun h5 => absurd (show v_landFull I = 0 by unfold v_landFull; rw [hA.1]; decide) h5⟩⟩⟩⟩⟩
  have hc : ∀ n : Nat, 3 + 4 * n ≠ 1 := fun n => by omega
  have hcl : 3 + 4 * (Int32.toNatClampNeg (I 1 1)) < 105 := by rw [hA.1]; decide
  refine am_qi ?_ (k _ _ ((((((am_ag.rf.up hcl).up hcl).up hcl).up hcl).up hcl).up (by decide)))
  rw [am_up_ne (Ne.symm (hc _)), am_up_ne (Ne.symm (hc _)), am_up_ne (Ne.symm (hc _)), am_up_ne (Ne.symm (hc _)), am_up_ne (Ne.symm (hc _)), hA.1]
  unfold q_house
  rw [if_neg h1, if_neg h2, if_neg h3, if_neg h4]
  decide
theorem a_107 {X : am_X} {d : Nat} {I : Nat → Nat → Int32} {J : Nat → Nat → Int64} {Q : Option Value → am_M → Prop} {x0 : Int32} (hA : p1_A I) (k : ∀ I' J', am_ag I I' → Q (some (.int (q_fam x0))) (am_N I' J')) : am_wp X (d + 6) 107 0 [.ref 0, .int x0] [] (am_N I J) Q := c_107 ⟨fun h => ⟨am_le0 hA.2.2.1, am_qi (if_pos (Or.inl h)) (k _ _ am_ag.rf)⟩, fun h => ⟨am_le0 hA.2.2.1, am_qi (if_pos (Or.inr h)) (k _ _ am_ag.rf)⟩, fun h1 h2 => am_qi (if_neg (fun h => h.elim h1 h2)) (k _ _ am_ag.rf)⟩
theorem a_121 {X : am_X} {d : Nat} {I : Nat → Nat → Int32} {J : Nat → Nat → Int64} {Q : Option Value → am_M → Prop} {x0 : Int32} (hA : p1_A I) (k : ∀ I' J', am_ag I I' → Q (some (.int (q_many x0))) (am_N I' J')) : am_wp X (d + 1) 121 0 [.ref 0, .int x0] [] (am_N I J) Q := c_121 ⟨fun h => am_qi ((if_pos (Or.inl h)).trans hA.1.symm) (k _ _ am_ag.rf), fun h => ⟨am_le0 hA.1, am_qi (if_pos (Or.inr (Or.inl h))) (k _ _ am_ag.rf)⟩, fun h => am_qi ((if_pos (Or.inr (Or.inr (Or.inl h)))).trans hA.2.1.symm) (k _ _ am_ag.rf), fun h => ⟨am_le0 hA.2.1, am_qi (if_pos (Or.inr (Or.inr (Or.inr (Or.inl h))))) (k _ _ am_ag.rf)⟩, fun h => am_qi ((if_pos (Or.inr (Or.inr (Or.inr (Or.inr (Or.inl h)))))).trans hA.2.2.1.symm) (k _ _ am_ag.rf), fun h => ⟨am_le0 hA.1, am_qi (if_pos (Or.inr (Or.inr (Or.inr (Or.inr (Or.inr h)))))) (k _ _ am_ag.rf)⟩, fun h0 h1 h2 h3 h4 h5 => am_qi (if_neg (fun h => h.elim h0 (fun h => h.elim h1 (fun h => h.elim h2 (fun h => h.elim h3 (fun h => h.elim h4 h5)))))) (k _ _ am_ag.rf)⟩
theorem a_108 {X : am_X} {d : Nat} {I : Nat → Nat → Int32} {J : Nat → Nat → Int64} {Q : Option Value → am_M → Prop} {x0 : Int32} {x1 : Int32} {x2 : Int32} (hA : p1_A I) (k : ∀ I' J', am_ag I I' → Q (some (.int (q_sheet x0 x1 x2))) (am_N I' J')) : am_wp X (d + 2) 108 0 [.ref 0, .int x0, .int x1, .int x2, am_uv] [] (am_N I J) Q := by
  refine c_108 ⟨fun h1 => am_qi (by unfold q_sheet; rw [if_pos h1]) (k _ _ (am_ag.rf.up (by decide))), fun h1 => ⟨fun h2 => am_qi (by unfold q_sheet; rw [if_neg h1, if_pos h2]) (k _ _ (am_ag.rf.up (by decide))), fun h2 => ⟨am_ix_of rfl (by decide) h1 h2, ?_⟩⟩⟩
  have hx : am_ix x0 4 := am_ix_of rfl (by decide) h1 h2
  have hcl : 97 + 2 * (Int32.toNatClampNeg x0) < 104 := by have := am_ix_lt hx; omega
  refine ⟨fun h3 => am_qi (by unfold q_sheet; rw [if_neg h1, if_neg h2, if_pos h3]) (k _ _ (am_ag.rf.up (by decide))), fun h3 => ⟨fun h4 => ⟨fun h5 => am_qi (by unfold q_sheet; rw [if_neg h1, if_neg h2, if_neg h3, if_pos h4, if_pos h5]) (k _ _ (((((am_ag.rf.up (by decide)).up (by omega)).up (by omega)).up (by omega)).fil (by omega))), fun h5 => am_qi (by unfold q_sheet; rw [if_neg h1, if_neg h2, if_neg h3, if_pos h4, if_neg h5]; decide) (k _ _ ((am_ag.rf.up (by decide)).up (by decide)))⟩, fun h4 => am_qi (by unfold q_sheet; rw [if_neg h1, if_neg h2, if_neg h3, if_neg h4]) (k _ _ (am_ag.rf.up (by decide)))⟩⟩
theorem a_109 {X : am_X} {d : Nat} {I : Nat → Nat → Int32} {J : Nat → Nat → Int64} {Q : Option Value → am_M → Prop} {x0 : Int32} (hA : p1_A I) (k : ∀ I' J', am_ag I I' → Q (some (.int (q_lose x0))) (am_N I' J')) : am_wp X (d + 1) 109 0 [.ref 0, .int x0, am_uv, am_uv] [] (am_N I J) Q := by
  refine c_109 ⟨fun h1 => am_qi (by unfold q_lose; rw [if_pos h1]) (k _ _ am_ag.rf), fun h1 => ⟨fun h2 => am_qi (by unfold q_lose; rw [if_neg h1, if_pos h2]) (k _ _ am_ag.rf), fun h2 => ⟨am_ix_of rfl (by decide) h1 h2, ?_⟩⟩⟩
  have hx : am_ix x0 4 := am_ix_of rfl (by decide) h1 h2
  have hcl : 97 + 2 * (Int32.toNatClampNeg x0) < 105 := by have := am_ix_lt hx; omega
  exact ⟨fun h3 => am_qi (by unfold q_lose; rw [if_neg h1, if_neg h2]) (k _ _ (am_ag.rf.up hcl)), fun h3 => absurd (hA.2.2.2.2.2.2.2.2 _ (am_ix_lt hx)) h3⟩
theorem a_110 {X : am_X} {d : Nat} {I : Nat → Nat → Int32} {J : Nat → Nat → Int64} {Q : Option Value → am_M → Prop} {x0 : Int32} {x1 : Int32} {x2 : Int32} (hA : p1_A I) (k : ∀ I' J', am_ag I I' → Q (some (.int (q_put x0))) (am_N I' J')) : am_wp X (d + 1) 110 0 [.ref 0, .int x0, .int x1, .int x2, am_uv, am_uv] [] (am_N I J) Q := by
  refine c_110 ⟨fun h1 => am_qi (by unfold q_put; rw [if_pos h1]) (k _ _ (am_ag.rf.up (by decide))), fun h1 => ⟨fun h2 => am_qi (by unfold q_put; rw [if_neg h1, if_pos h2]) (k _ _ (am_ag.rf.up (by decide))), fun h2 => ⟨am_ix_of rfl (by decide) h1 h2, ?_⟩⟩⟩
  have hx : am_ix x0 4 := am_ix_of rfl (by decide) h1 h2
  have hz : (am_up I 0 8 0) (97 + 2 * (Int32.toNatClampNeg x0)) 1 = 0 := by rw [am_up_ne (by omega)]; exact hA.2.2.2.2.2.2.2.2 _ (am_ix_lt hx)
  exact ⟨fun h3 => am_qi (by unfold q_put; rw [if_neg h1, if_neg h2]; decide) (k _ _ ((am_ag.rf.up (by decide)).up (by decide))), fun h3 => absurd hz h3⟩
theorem a_111 {X : am_X} {d : Nat} {I : Nat → Nat → Int32} {J : Nat → Nat → Int64} {Q : Option Value → am_M → Prop} {x0 : Int32} {x1 : Int32} {x2 : Int32} (hA : p1_A I) (k : ∀ I' J', am_ag I I' → Q (some (.long (-9223372036854775808))) (am_N I' J')) : am_wp X (d + 2) 111 0 [.ref 0, .int x0, .int x1, .int x2, am_uv] [] (am_N I J) Q := by
  refine c_111 ⟨fun h1 => k _ _ (am_ag.rf.up (by decide)), fun h1 => ⟨fun h2 => k _ _ (am_ag.rf.up (by decide)), fun h2 => ⟨am_ix_of rfl (by decide) h1 h2, fun h3 => k _ _ (am_ag.rf.up (by decide)), fun h3 => ?_⟩⟩⟩
  have hx : am_ix x0 4 := am_ix_of rfl (by decide) h1 h2
  have hz : (am_up I 0 8 0) (97 + 2 * (Int32.toNatClampNeg x0)) 1 = 0 := by rw [am_up_ne (by omega)]; exact hA.2.2.2.2.2.2.2.2 _ (am_ix_lt hx)
  exact ⟨fun h3 => k _ _ ((am_ag.rf.up (by decide)).up (by decide)), fun h3 => absurd hz h3⟩
theorem b_151 {X : am_X} {d : Nat} {I : Nat → Nat → Int32} {J : Nat → Nat → Int64} {Q : Option Value → am_M → Prop} {x0 : Int32} {x1 : Int32} {x2 : Int32} (hB : p1_B I) (k : ∀ I' J', Q (some (.int (-1))) (am_N I' J')) : am_wp X (d + 3) 151 0 [.ref 105, .int x0, .int x1, .int x2] [] (am_N I J) Q := c_151 ⟨hB.2.2.1, k _ _⟩
theorem b_153 {X : am_X} {d : Nat} {I : Nat → Nat → Int32} {J : Nat → Nat → Int64} {Q : Option Value → am_M → Prop} {x0 : Int32} {x1 : Int32} {x2 : Int32} {x3 : Int32} {x4 : Int32} (hB : p1_B I) (k : ∀ I' J', Q (some (.int (-1))) (am_N I' J')) : am_wp X (d + 3) 153 0 [.ref 105, .int x0, .int x1, .int x2, .int x3, .int x4, am_uv, am_uv, am_uv] [] (am_N I J) Q := c_153 ⟨hB.2.2.1, k _ _⟩
theorem b_154 {X : am_X} {d : Nat} {I : Nat → Nat → Int32} {J : Nat → Nat → Int64} {Q : Option Value → am_M → Prop} {x0 : Int32} {x1 : Int32} {x2 : Int32} (hB : p1_B I) (k : ∀ I' J', Q (some (.int (-1))) (am_N I' J')) : am_wp X (d + 1) 154 0 [.ref 105, .int x0, .int x1, .int x2] [] (am_N I J) Q := c_154 ⟨hB.2.2.1, k _ _⟩
theorem b_155 {X : am_X} {d : Nat} {I : Nat → Nat → Int32} {J : Nat → Nat → Int64} {Q : Option Value → am_M → Prop} {x0 : Int32} {x1 : Int32} (hB : p1_B I) (k : ∀ I' J', Q (some (.int (-1))) (am_N I' J')) : am_wp X (d + 1) 155 0 [.ref 105, .int x0, .int x1, am_uv] [] (am_N I J) Q := c_155 ⟨hB.2.2.1, k _ _⟩
theorem b_157 {X : am_X} {d : Nat} {I : Nat → Nat → Int32} {J : Nat → Nat → Int64} {Q : Option Value → am_M → Prop} {x0 : Int32} (hB : p1_B I) (k : ∀ I' J', Q (some (.int (-1))) (am_N I' J')) : am_wp X (d + 1) 157 0 [.ref 105, .int x0, am_uv, am_uv] [] (am_N I J) Q := c_157 ⟨hB.2.2.1, k _ _⟩
theorem b_158 {X : am_X} {d : Nat} {I : Nat → Nat → Int32} {J : Nat → Nat → Int64} {Q : Option Value → am_M → Prop} {x0 : Int32} {x1 : Int32} (hB : p1_B I) (k : ∀ I' J', Q (some (.int (-1))) (am_N I' J')) : am_wp X (d + 1) 158 0 [.ref 105, .int x0, .int x1] [] (am_N I J) Q := c_158 ⟨hB.2.2.1, k _ _⟩
theorem b_160 {X : am_X} {d : Nat} {I : Nat → Nat → Int32} {J : Nat → Nat → Int64} {Q : Option Value → am_M → Prop} {x0 : Int32} {x1 : Int32} {x2 : Int32} (hB : p1_B I) (k : ∀ I' J', Q (some (.int (-1))) (am_N I' J')) : am_wp X (d + 2) 160 0 [.ref 105, .int x0, .int x1, .int x2] [] (am_N I J) Q := c_160 ⟨hB.2.2.1, k _ _⟩
theorem b_169 {X : am_X} {d : Nat} {I : Nat → Nat → Int32} {J : Nat → Nat → Int64} {Q : Option Value → am_M → Prop} {x0 : Int32} {x1 : Int32} {x2 : Int32} {x3 : Int32} {x4 : Int32} {x5 : Int32} {x6 : Int32} (hB : p1_B I) (k : ∀ I' J', Q (some (.int (-1))) (am_N I' J')) : am_wp X (d + 3) 169 0 [.ref 105, .int x0, .int x1, .int x2, .int x3, .int x4, .int x5, .int x6, am_uv, am_uv, am_uv] [] (am_N I J) Q := c_169 ⟨hB.2.2.1, k _ _⟩
theorem b_182 {X : am_X} {d : Nat} {I : Nat → Nat → Int32} {J : Nat → Nat → Int64} {Q : Option Value → am_M → Prop} {x0 : Int32} {x1 : Int32} {x2 : Int32} {x3 : Int32} (hB : p1_B I) (k : ∀ I' J', Q (some (.int (-1))) (am_N I' J')) : am_wp X (d + 3) 182 0 [.ref 105, .int x0, .int x1, .int x2, .int x3] [] (am_N I J) Q := c_182 ⟨hB.2.2.1, k _ _⟩
theorem b_183 {X : am_X} {d : Nat} {I : Nat → Nat → Int32} {J : Nat → Nat → Int64} {Q : Option Value → am_M → Prop} {x0 : Int32} (hB : p1_B I) (k : ∀ I' J', Q (some (.int (-1))) (am_N I' J')) : am_wp X (d + 1) 183 0 [.ref 105, .int x0, am_uv, am_uv, am_uv, am_uv] [] (am_N I J) Q := c_183 ⟨hB.2.2.1, k _ _⟩
theorem b_200 {X : am_X} {d : Nat} {I : Nat → Nat → Int32} {J : Nat → Nat → Int64} {Q : Option Value → am_M → Prop} {x0 : Int32} (hB : p1_B I) (k : ∀ I' J', Q (some (.int (-1))) (am_N I' J')) : am_wp X (d + 5) 200 0 [.ref 105, .int x0, am_uv, am_uv, am_uv] [] (am_N I J) Q := c_200 ⟨hB.2.2.1, k _ _⟩
theorem b_219 {X : am_X} {d : Nat} {I : Nat → Nat → Int32} {J : Nat → Nat → Int64} {Q : Option Value → am_M → Prop} {x0 : Int32} {x1 : Int32} {x2 : Int32} {x3 : Int32} {x4 : Int32} {x5 : Int32} {x6 : Int32} (hB : p1_B I) (k : ∀ I' J', Q (some (.int (-1))) (am_N I' J')) : am_wp X (d + 5) 219 0 [.ref 105, .int x0, .int x1, .int x2, .int x3, .int x4, .int x5, .int x6, am_uv, am_uv, am_uv, am_uv, am_uv, am_uv] [] (am_N I J) Q := c_219 ⟨hB.2.2.1, k _ _⟩
theorem b_225 {X : am_X} {d : Nat} {I : Nat → Nat → Int32} {J : Nat → Nat → Int64} {Q : Option Value → am_M → Prop} {x0 : Int32} (hB : p1_B I) (k : ∀ I' J', Q (some (.int (-1))) (am_N I' J')) : am_wp X (d + 1) 225 0 [.ref 105, .int x0] [] (am_N I J) Q := c_225 ⟨hB.2.2.1, k _ _⟩
theorem b_226 {X : am_X} {d : Nat} {I : Nat → Nat → Int32} {J : Nat → Nat → Int64} {Q : Option Value → am_M → Prop} {x0 : Int32} (hB : p1_B I) (k : ∀ I' J', Q (some (.int (-1))) (am_N I' J')) : am_wp X (d + 1) 226 0 [.ref 105, .int x0] [] (am_N I J) Q := c_226 ⟨hB.2.2.1, k _ _⟩
theorem b_227 {X : am_X} {d : Nat} {I : Nat → Nat → Int32} {J : Nat → Nat → Int64} {Q : Option Value → am_M → Prop} {x0 : Int32} {x1 : Int32} (hB : p1_B I) (k : ∀ I' J', Q (some (.int (-1))) (am_N I' J')) : am_wp X (d + 1) 227 0 [.ref 105, .int x0, .int x1] [] (am_N I J) Q := c_227 ⟨hB.2.2.1, k _ _⟩
theorem b_159 {X : am_X} {d : Nat} {I : Nat → Nat → Int32} {J : Nat → Nat → Int64} {Q : Option Value → am_M → Prop} {x0 : Int32} (hB : p1_B I) (k : ∀ I' J', Q (some (.long (-9223372036854775808))) (am_N I' J')) : am_wp X (d + 1) 159 0 [.ref 105, .int x0] [] (am_N I J) Q := c_159 ⟨hB.2.2.1, k _ _⟩
theorem b_185 {X : am_X} {d : Nat} {I : Nat → Nat → Int32} {J : Nat → Nat → Int64} {Q : Option Value → am_M → Prop} {x0 : Int32} {x1 : Int32} (hB : p1_B I) (k : ∀ I' J', Q (some (.int (-1))) (am_N I' J')) : am_wp X (d + 1) 185 0 [.ref 105, .int x0, .int x1, am_uv] [] (am_N I J) Q := c_185 ⟨hB.2.2.2.2.1, k _ _⟩
theorem b_208 {X : am_X} {d : Nat} {I : Nat → Nat → Int32} {J : Nat → Nat → Int64} {Q : Option Value → am_M → Prop} {x0 : Int32} (hB : p1_B I) (k : ∀ I' J', Q (some (.int (-1))) (am_N I' J')) : am_wp X (d + 7) 208 0 [.ref 105, .int x0] [] (am_N I J) Q := c_208 ⟨hB.2.2.2.2.1, k _ _⟩
theorem b_213 {X : am_X} {d : Nat} {I : Nat → Nat → Int32} {J : Nat → Nat → Int64} {Q : Option Value → am_M → Prop} {x0 : Int32} (hB : p1_B I) (k : ∀ I' J', Q (some (.int (-1))) (am_N I' J')) : am_wp X (d + 4) 213 0 [.ref 105, .int x0, am_uv, am_uv] [] (am_N I J) Q := c_213 ⟨hB.2.2.2.2.1, k _ _⟩
theorem b_186 {X : am_X} {d : Nat} {I : Nat → Nat → Int32} {J : Nat → Nat → Int64} {Q : Option Value → am_M → Prop} {x0 : Int32} {x1 : Int32} (hB : p1_B I) (k : ∀ I' J', Q (some (.int (-99))) (am_N I' J')) : am_wp X (d + 1) 186 0 [.ref 105, .int x0, .int x1] [] (am_N I J) Q := c_186 ⟨hB.2.2.2.2.1, k _ _⟩
theorem b_187 {X : am_X} {d : Nat} {I : Nat → Nat → Int32} {J : Nat → Nat → Int64} {Q : Option Value → am_M → Prop} (hB : p1_B I) (k : ∀ I' J', Q (some (.int (0))) (am_N I' J')) : am_wp X d 187 0 [.ref 105, am_uv] [] (am_N I J) Q := c_187 (am_qi hB.2.2.2.2.1.symm (k _ _))
theorem b_228 {X : am_X} {d : Nat} {I : Nat → Nat → Int32} {J : Nat → Nat → Int64} {Q : Option Value → am_M → Prop} (hB : p1_B I) (k : ∀ I' J', Q (some (.int (0))) (am_N I' J')) : am_wp X d 228 0 [.ref 105] [] (am_N I J) Q := c_228 (am_qi hB.2.1.symm (k _ _))
theorem b_229 {X : am_X} {d : Nat} {I : Nat → Nat → Int32} {J : Nat → Nat → Int64} {Q : Option Value → am_M → Prop} (hB : p1_B I) (k : ∀ I' J', Q (some (.int (0))) (am_N I' J')) : am_wp X d 229 0 [.ref 105] [] (am_N I J) Q := c_229 (am_qi hB.1.symm (k _ _))
theorem b_178 {X : am_X} {d : Nat} {I : Nat → Nat → Int32} {J : Nat → Nat → Int64} {Q : Option Value → am_M → Prop} {x0 : Int32} {x1 : Int32} (hB : p1_B I) (k : ∀ I' J', Q (some (.int (-1))) (am_N I' J')) : am_wp X (d + 4) 178 0 [.ref 105, .int x0, .int x1, am_uv, am_uv] [] (am_N I J) Q := c_178 ⟨fun _ => k _ _, fun h => ⟨fun h2 => h (by rw [hB.2.2.2.1] at h2; exact h2), k _ _⟩⟩
theorem b_172 {X : am_X} {d : Nat} {I : Nat → Nat → Int32} {J : Nat → Nat → Int64} {Q : Option Value → am_M → Prop} {x0 : Int32} {x1 : Int32} {x2 : Int32} {x3 : Int32} {x4 : Int32} {x5 : Int32} (hB : p1_B I) (k : ∀ I' J', Q (some (.int (q_shake x0 x1 x2 x3 x4 x5))) (am_N I' J')) : am_wp X (d + 3) 172 0 [.ref 105, .int x0, .int x1, .int x2, .int x3, .int x4, .int x5, am_uv] [] (am_N I J) Q := by
  refine c_172 ⟨fun h1 => am_qi (by unfold q_shake; exact if_pos h1) (k _ _), fun h1 => ⟨fun h2 => am_qi (by unfold q_shake; exact (if_neg h1).trans (if_pos h2)) (k _ _), fun h2 => ⟨fun h3 => (by rw [hB.2.2.2.1] at h3; exact absurd h3 (by decide)), fun h3 => ⟨am_le0 hB.2.2.1, (am_ixz hB.2.2.2.1 (by decide)), (am_ixz hB.2.2.2.1 (by decide)), (am_ixz hB.2.2.2.1 (by decide)), (am_ixz hB.2.2.2.1 (by decide)), am_qi ?_ (k _ _)⟩⟩⟩⟩
  rw [hB.2.2.2.1]
  unfold q_shake
  exact (if_neg h1).trans (if_neg h2)
theorem b_173 {X : am_X} {d : Nat} {I : Nat → Nat → Int32} {J : Nat → Nat → Int64} {Q : Option Value → am_M → Prop} {x0 : Int32} {x1 : Int32} {x2 : Int32} {x3 : Int32} (hB : p1_B I) (k : ∀ I' J', Q (some (.int (q_was x0 x1 x2 x3))) (am_N I' J')) : am_wp X (d + 2) 173 0 [.ref 105, .int x0, .int x1, .int x2, .int x3] [] (am_N I J) Q := by
  refine c_173 ⟨fun h1 => am_qi (by unfold q_was; exact if_pos h1) (k _ _), fun h1 => ⟨fun h2 => am_qi (by unfold q_was; exact (if_neg h1).trans (if_pos h2)) (k _ _), fun h2 => ⟨fun h5 => am_qi (by unfold q_was; exact (if_neg h1).trans ((if_neg h2).trans (if_pos h5))) (k _ _), fun h5 => ⟨fun h3 => (by rw [hB.2.2.2.1] at h3; exact absurd h3 (by decide)), fun h3 => ⟨(am_ixz hB.2.2.2.1 (by decide)), (am_ixz hB.2.2.2.1 (by decide)), (am_ixz hB.2.2.2.1 (by decide)), (am_ixz hB.2.2.2.1 (by decide)), am_qi ?_ (k _ _)⟩⟩⟩⟩⟩
  rw [hB.2.2.2.1]
  unfold q_was
  exact (if_neg h1).trans ((if_neg h2).trans (if_neg h5))
theorem b_148 {X : am_X} {d : Nat} {I : Nat → Nat → Int32} {J : Nat → Nat → Int64} {Q : Option Value → am_M → Prop} {x0 : Int32} {x1 : Int32} {x2 : Int32} {x3 : Int32} {x4 : Int32} (hB : p1_B I) (k : ∀ I' J', Q (some (.int (q_house x0 x1 x2 x3 x4))) (am_N I' J')) : am_wp X (d + 2) 148 0 [.ref 105, .int x0, .int x1, .int x2, .int x3, .int x4] [] (am_N I J) Q := by
  refine c_148 ⟨fun h1 => am_qi (by unfold q_house; exact if_pos h1) (k _ _), fun h1 => ⟨fun h2 => am_qi (by unfold q_house; exact (if_neg h1).trans (if_pos h2)) (k _ _), fun h2 => ⟨fun h3 => am_qi (by unfold q_house; exact (if_neg h1).trans ((if_neg h2).trans (if_pos h3))) (k _ _), fun h3 => ⟨fun h4 => am_qi (by unfold q_house; exact (if_neg h1).trans ((if_neg h2).trans ((if_neg h3).trans (if_pos h4)))) (k _ _), fun h4 => ⟨fun h5 => by rw [hB.2.2.1] at h5; exact absurd h5 (by decide), fun h5 => ⟨(am_ixz hB.2.2.1 (by decide)), (am_ixz hB.2.2.1 (by decide)), (am_ixz hB.2.2.1 (by decide)), (am_ixz hB.2.2.1 (by decide)), (am_ixz hB.2.2.1 (by decide)), (am_ixz hB.2.2.1 (by decide)), (am_ixz hB.2.2.1 (by decide)), (am_ixz hB.2.2.1 (by decide)), (am_ixz hB.2.2.1 (by decide)), (am_ixz hB.2.2.1 (by decide)), (am_ixz hB.2.2.1 (by decide)), am_qi ?_ (k _ _)⟩⟩⟩⟩⟩⟩
  rw [hB.2.2.1]
  unfold q_house
  exact (if_neg h1).trans ((if_neg h2).trans ((if_neg h3).trans (if_neg h4)))
theorem b_179 {X : am_X} {d : Nat} {I : Nat → Nat → Int32} {J : Nat → Nat → Int64} {Q : Option Value → am_M → Prop} {x0 : Int32} (hB : p1_B I) (k : ∀ I' J', Q (some (.int (q_fam x0))) (am_N I' J')) : am_wp X (d + 4) 179 0 [.ref 105, .int x0, am_uv, am_uv, am_uv, am_uv] [] (am_N I J) Q := by
  refine c_179 ⟨fun h1 => am_qi (if_neg ?_) (k _ _), fun h1 => ⟨am_le0 hB.2.2.2.1, fun h2 => am_qi (if_pos (Or.inl h2)) (k _ _), fun h2 => am_qi (if_pos ?_) (k _ _)⟩⟩
  · intro h
    rcases h with h | h <;> (subst h; exact absurd h1 (by decide))
  · exact am_01 h1
theorem b_230 {X : am_X} {d : Nat} {I : Nat → Nat → Int32} {J : Nat → Nat → Int64} {Q : Option Value → am_M → Prop} {x0 : Int32} (hB : p1_B I) (k : ∀ I' J', Q (some (.int (q_many x0))) (am_N I' J')) : am_wp X d 230 0 [.ref 105, .int x0, am_uv, am_uv] [] (am_N I J) Q := c_230 ⟨fun h => am_qi ((if_pos (Or.inl h)).trans hB.2.2.1.symm) (k _ _), fun h => ⟨am_le0 hB.2.2.1, am_qi (if_pos (Or.inr (Or.inl h))) (k _ _)⟩, fun h => am_qi ((if_pos (Or.inr (Or.inr (Or.inl h)))).trans hB.2.2.2.2.1.symm) (k _ _), fun h => ⟨am_le0 hB.2.2.2.2.1, am_qi (if_pos (Or.inr (Or.inr (Or.inr (Or.inl h))))) (k _ _)⟩, fun h => am_qi ((if_pos (Or.inr (Or.inr (Or.inr (Or.inr (Or.inl h)))))).trans hB.2.2.2.1.symm) (k _ _), fun h => ⟨am_le0 hB.2.2.1, am_qi (if_pos (Or.inr (Or.inr (Or.inr (Or.inr (Or.inr h)))))) (k _ _)⟩, fun h0 h1 h2 h3 h4 h5 => am_qi (if_neg (fun h => h.elim h0 (fun h => h.elim h1 (fun h => h.elim h2 (fun h => h.elim h3 (fun h => h.elim h4 h5)))))) (k _ _)⟩
theorem b_220 {X : am_X} {d : Nat} {I : Nat → Nat → Int32} {J : Nat → Nat → Int64} {Q : Option Value → am_M → Prop} {x0 : Int32} {x1 : Int32} {x2 : Int32} (hB : p1_B I) (k : ∀ I' J', Q (some (.int (q_sheet x0 x1 x2))) (am_N I' J')) : am_wp X (d + 1) 220 0 [.ref 105, .int x0, .int x1, .int x2, am_uv] [] (am_N I J) Q := by
  refine c_220 ⟨fun h1 => am_qi ?_ (k _ _), fun h1 => ?_⟩
  · unfold q_sheet
    rcases am_w0 h1 with h | h
    · rw [if_pos h]
    · rw [if_neg (am_34 h).1, if_pos (am_34 h).2]
  obtain ⟨g1, g2⟩ := am_w1 h1
  have g2 : ¬ 4 ≤ x0 := am_43 g2
  have hx : am_ix x0 4 := am_ix_of rfl (by decide) g1 g2
  refine ⟨fun h3 => am_qi (by unfold q_sheet; exact (if_neg g1).trans ((if_neg g2).trans (if_pos h3))) (k _ _), fun h3 => ⟨fun h4 => ⟨fun h5 => ⟨hx, hx, ?_⟩, fun h5 => am_qi (by unfold q_sheet; exact (if_neg g1).trans ((if_neg g2).trans ((if_neg h3).trans ((if_pos h4).trans (if_neg h5))))) (k _ _)⟩, fun h4 => am_qi (by unfold q_sheet; exact (if_neg g1).trans ((if_neg g2).trans ((if_neg h3).trans (if_neg h4)))) (k _ _)⟩⟩
  have hq : q_sheet x0 x1 x2 = 1 := by unfold q_sheet; exact (if_neg g1).trans ((if_neg g2).trans ((if_neg h3).trans ((if_pos h4).trans (if_pos h5))))
  obtain ⟨z, rfl, hz1, hz2⟩ := oi_of x0
  have hz : 0 ≤ z ∧ z < 4 := by
    have e1 : ¬ Int32.ofInt z < Int32.ofInt 0 := g1
    have e2 : ¬ Int32.ofInt 4 ≤ Int32.ofInt z := g2
    rw [oi_lt (by omega) (by omega)] at e1
    rw [oi_le (by omega) (by omega)] at e2
    omega
  refine am_down (N := 40) (P := fun m => ∀ I : Nat → Nat → Int32, am_wp X (d + 1) 220 61 [.ref 105, .int (Int32.ofInt z), .int x1, .int x2, .int (Int32.ofInt m)] [] (am_N I J) Q) ?_ ?_ 0 (by decide) _
  · intro I
    exact c_220_61 ⟨fun _ => am_qi hq (k _ _), fun h => absurd (Int32.le_refl _) h⟩
  · intro m hm ih I
    refine c_220_61 ⟨fun h => ?_, fun _ => ⟨?_, ?_⟩⟩
    · have h : Int32.ofInt 40 ≤ Int32.ofInt m := h
      rw [oi_le (by omega) (by omega)] at h
      omega
    · rw [show (40 : Int32) = Int32.ofInt 40 from rfl, oi_mul, oi_add]
      exact oi_ix (by omega) (by omega) (by omega)
    · rw [oi_succ]
      exact ih _
theorem b_221 {X : am_X} {d : Nat} {I : Nat → Nat → Int32} {J : Nat → Nat → Int64} {Q : Option Value → am_M → Prop} {x0 : Int32} (hB : p1_B I) (k : ∀ I' J', Q (some (.int (q_lose x0))) (am_N I' J')) : am_wp X (d + 1) 221 0 [.ref 105, .int x0, am_uv] [] (am_N I J) Q := by
  refine c_221 ⟨fun h1 => am_qi ?_ (k _ _), fun h1 => ?_⟩
  · unfold q_lose
    rcases am_w0 h1 with h | h
    · rw [if_pos h]
    · rw [if_neg (am_34 h).1, if_pos (am_34 h).2]
  obtain ⟨g1, g2⟩ := am_w1 h1
  have g2 : ¬ 4 ≤ x0 := am_43 g2
  have hx : am_ix x0 4 := am_ix_of rfl (by decide) g1 g2
  exact ⟨hx, fun h => ⟨hx, am_qi (by unfold q_lose; rw [if_neg g1, if_neg g2]) (k _ _)⟩, fun h => absurd (hB.2.2.2.2.2 _ (am_ix_lt hx)) h⟩
theorem b_222 {X : am_X} {d : Nat} {I : Nat → Nat → Int32} {J : Nat → Nat → Int64} {Q : Option Value → am_M → Prop} {x0 : Int32} {x1 : Int32} {x2 : Int32} (hB : p1_B I) (k : ∀ I' J', Q (some (.int (q_put x0))) (am_N I' J')) : am_wp X (d + 1) 222 0 [.ref 105, .int x0, .int x1, .int x2] [] (am_N I J) Q := by
  refine c_222 ⟨fun h1 => am_qi ?_ (k _ _), fun h1 => ?_⟩
  · unfold q_put
    rcases am_w0 h1 with h | h
    · rw [if_pos h]
    · rw [if_neg (am_34 h).1, if_pos (am_34 h).2]
  obtain ⟨g1, g2⟩ := am_w1 h1
  have g2 : ¬ 4 ≤ x0 := am_43 g2
  have hx : am_ix x0 4 := am_ix_of rfl (by decide) g1 g2
  exact ⟨hx, fun h => am_qi (by unfold q_put; rw [if_neg g1, if_neg g2]; decide) (k _ _), fun h => absurd (hB.2.2.2.2.2 _ (am_ix_lt hx)) h⟩
theorem b_223 {X : am_X} {d : Nat} {I : Nat → Nat → Int32} {J : Nat → Nat → Int64} {Q : Option Value → am_M → Prop} {x0 : Int32} {x1 : Int32} {x2 : Int32} (hB : p1_B I) (k : ∀ I' J', Q (some (.long (-9223372036854775808))) (am_N I' J')) : am_wp X (d + 1) 223 0 [.ref 105, .int x0, .int x1, .int x2] [] (am_N I J) Q := by
  refine c_223 ⟨fun h1 => k _ _, fun h1 => ⟨fun h2 => k _ _, fun h2 => ?_⟩⟩
  obtain ⟨g1, g2⟩ := am_w1 h1
  have g2 : ¬ 4 ≤ x0 := am_43 g2
  have hx : am_ix x0 4 := am_ix_of rfl (by decide) g1 g2
  have hz := hB.2.2.2.2.2 _ (am_ix_lt hx)
  exact ⟨hx, fun h => ⟨hx, fun h => k _ _, fun h => absurd hz h⟩, fun h => absurd hz h⟩
