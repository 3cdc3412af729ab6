/-! TWO RUNS ARE ONE; a run that is given places of S alone keeps to S -/
theorem am_wp_and {X : am_X} {d j pc : Nat} {ls st : List Value} {σ : am_M} {Q Q' : Option Value → am_M → Prop} (h : am_wp X d j pc ls st σ Q) (h' : am_wp X d j pc ls st σ Q') : am_wp X d j pc ls st σ (fun v σ' => Q v σ' ∧ Q' v σ') := by
  obtain ⟨n, v, s, e, q⟩ := h
  obtain ⟨n', v', s', e', q'⟩ := h'
  have e1 := am_more (k := max n n') e (Nat.le_max_left _ _)
  have e2 := am_more (k := max n n') e' (Nat.le_max_right _ _)
  rw [e1] at e2
  injection e2 with e2
  injection e2 with a b
  subst a
  subst b
  exact ⟨n, v, s, e, q, q'⟩
/-- no reference comes from nowhere -/
def nr (ls st ls' st' : List Value) : Prop := (∀ a, Value.ref a ∈ ls' → Value.ref a ∈ ls ∨ Value.ref a ∈ st) ∧ (∀ a, Value.ref a ∈ st' → Value.ref a ∈ ls ∨ Value.ref a ∈ st)
section NRS
variable {ls st ls' st' : List Value} {n n' i : Nat}
theorem nr_push {v : Value} (hv : ∀ a, v ≠ .ref a) : nr ls st ls (v :: st) := by
  refine ⟨fun a q => Or.inl q, fun a q => ?_⟩
  rcases List.mem_cons.mp q with q | q
  · exact absurd q.symm (hv a)
  · exact Or.inr q
theorem nr_sub {r : List Value} (h : ∀ a, Value.ref a ∈ r → Value.ref a ∈ ls ∨ Value.ref a ∈ st) : nr ls st ls r := ⟨fun _ q => Or.inl q, h⟩
theorem nr_getD {a : Nat} (h : ls.getD i am_uv = .ref a) : Value.ref a ∈ ls := by
  rw [List.getD_eq_getElem?_getD] at h
  cases hx : ls[i]? with
  | none => rw [hx] at h; cases h
  | some w =>
    rw [hx] at h
    simp only [Option.getD_some] at h
    subst h
    exact List.mem_of_getElem? hx
theorem nr_ldi (h : am_ldi ls i n st = some (n', ls', st')) : nr ls st ls' st' := by
  unfold am_ldi at h
  split at h
  · cases h
    exact nr_push (fun a => by intro q; cases q)
  · cases h
theorem nr_ldl (h : am_ldl ls i n st = some (n', ls', st')) : nr ls st ls' st' := by
  unfold am_ldl at h
  split at h
  · cases h
    exact nr_push (fun a => by intro q; cases q)
  · cases h
theorem nr_lda (h : am_lda ls i n st = some (n', ls', st')) : nr ls st ls' st' := by
  unfold am_lda at h
  split at h
  · rename_i x hx
    cases h
    refine nr_sub (fun a q => ?_)
    rcases List.mem_cons.mp q with q | q
    · injection q with q
      subst q
      exact Or.inl (nr_getD hx)
    · exact Or.inr q
  · cases h
    exact nr_push (fun a => by intro q; cases q)
  · cases h
theorem nr_set {v : Value} {r : List Value} (hr : ∀ a, Value.ref a ∈ v :: r → Value.ref a ∈ st) : nr ls st (ls.set i v) r := by
  refine ⟨fun a q => ?_, fun a q => Or.inr (hr a (List.mem_cons_of_mem _ q))⟩
  rcases List.mem_or_eq_of_mem_set q with q | q
  · exact Or.inl q
  · exact Or.inr (hr a (by rw [q]; exact List.mem_cons_self))
theorem nr_s1 {v : Value} {r l : List Value} (h : am_s1 ls i v = some l) (hr : ∀ a, Value.ref a ∈ v :: r → Value.ref a ∈ st) : nr ls st l r := by
  unfold am_s1 at h
  split at h
  · injection h with h
    subst h
    exact nr_set hr
  · cases h
theorem nr_sti (h : am_sti ls i n st = some (n', ls', st')) : nr ls st ls' st' := by
  unfold am_sti at h
  split at h
  · obtain ⟨l, h1, h2⟩ := Option.map_eq_some_iff.mp h
    cases h2
    exact nr_s1 h1 (fun a q => q)
  · cases h
theorem nr_sta (h : am_sta ls i n st = some (n', ls', st')) : nr ls st ls' st' := by
  unfold am_sta at h
  split at h
  · obtain ⟨l, h1, h2⟩ := Option.map_eq_some_iff.mp h
    cases h2
    exact nr_s1 h1 (fun a q => q)
  · obtain ⟨l, h1, h2⟩ := Option.map_eq_some_iff.mp h
    cases h2
    exact nr_s1 h1 (fun a q => q)
  · cases h
theorem nr_stl (h : am_stl ls i n st = some (n', ls', st')) : nr ls st ls' st' := by
  unfold am_stl at h
  split at h
  · obtain ⟨l, h1, h2⟩ := Option.map_eq_some_iff.mp h
    cases h2
    unfold am_s2 at h1
    split at h1
    · injection h1 with h1
      subst h1
      refine ⟨fun a q => ?_, fun a q => Or.inr (List.mem_cons_of_mem _ q)⟩
      rcases List.mem_or_eq_of_mem_set q with q | q
      · rcases List.mem_or_eq_of_mem_set q with q | q
        · exact Or.inl q
        · cases q
      · cases q
    · cases h1
  · cases h
theorem nr_inc {c : Int} (h : am_inc ls i c st = some (n', ls', st')) : nr ls st ls' st' := by
  unfold am_inc at h
  split at h
  · obtain ⟨l, h1, h2⟩ := Option.map_eq_some_iff.mp h
    cases h2
    unfold am_s1 at h1
    split at h1
    · injection h1 with h1
      subst h1
      refine ⟨fun a q => ?_, fun a q => Or.inr q⟩
      rcases List.mem_or_eq_of_mem_set q with q | q
      · exact Or.inl q
      · cases q
    · cases h1
  · cases h
theorem nr_i2 {f : Int32 → Int32 → Int32} (h : am_i2 f ls st = some (n', ls', st')) : nr ls st ls' st' := by
  unfold am_i2 at h
  split at h
  · cases h
    exact nr_sub (fun a q => by simp only [List.mem_cons, reduceCtorEq, false_or] at q ⊢; exact Or.inr q)
  · cases h
theorem nr_i2n {f : Int32 → Int32 → Int32} (h : am_i2n f ls st = some (n', ls', st')) : nr ls st ls' st' := by
  unfold am_i2n at h
  split at h
  · split at h
    · cases h
    · cases h
      exact nr_sub (fun a q => by simp only [List.mem_cons, reduceCtorEq, false_or] at q ⊢; exact Or.inr q)
  · cases h
theorem nr_i1 {f : Int32 → Value} (hf : ∀ x a, f x ≠ .ref a) (h : am_i1 f ls st = some (n', ls', st')) : nr ls st ls' st' := by
  unfold am_i1 at h
  split at h
  · cases h
    refine nr_sub (fun a q => ?_)
    rcases List.mem_cons.mp q with q | q
    · exact absurd q.symm (hf _ a)
    · exact Or.inr (List.mem_cons_of_mem _ q)
  · cases h
theorem nr_l2 {f : Int64 → Int64 → Value} (hf : ∀ x y a, f x y ≠ .ref a) (h : am_l2 f ls st = some (n', ls', st')) : nr ls st ls' st' := by
  unfold am_l2 at h
  split at h
  · cases h
    refine nr_sub (fun a q => ?_)
    rcases List.mem_cons.mp q with q | q
    · exact absurd q.symm (hf _ _ a)
    · exact Or.inr (List.mem_cons_of_mem _ (List.mem_cons_of_mem _ q))
  · cases h
theorem nr_l1 {f : Int64 → Value} (hf : ∀ x a, f x ≠ .ref a) (h : am_l1 f ls st = some (n', ls', st')) : nr ls st ls' st' := by
  unfold am_l1 at h
  split at h
  · cases h
    refine nr_sub (fun a q => ?_)
    rcases List.mem_cons.mp q with q | q
    · exact absurd q.symm (hf _ a)
    · exact Or.inr (List.mem_cons_of_mem _ q)
  · cases h
theorem nr_li {f : Int64 → Int32 → Int64} (h : am_li f ls st = some (n', ls', st')) : nr ls st ls' st' := by
  unfold am_li at h
  split at h
  · cases h
    exact nr_sub (fun a q => by simp only [List.mem_cons, reduceCtorEq, false_or] at q ⊢; exact Or.inr q)
  · cases h
theorem nr_dup (h : am_dup ls st = some (n', ls', st')) : nr ls st ls' st' := by
  unfold am_dup at h
  split at h
  · split at h
    · cases h
      refine nr_sub (fun a q => Or.inr ?_)
      rcases List.mem_cons.mp q with q | q
      · rw [q]
        exact List.mem_cons_self
      · exact q
    · cases h
  · cases h
theorem nr_dup2 (h : am_dup2 ls st = some (n', ls', st')) : nr ls st ls' st' := by
  unfold am_dup2 at h
  split at h
  · split at h
    · cases h
      refine nr_sub (fun a q => Or.inr ?_)
      simp only [List.mem_cons] at q ⊢
      rcases q with q | q | q | q | q
      · exact Or.inl q
      · exact Or.inr (Or.inl q)
      · exact Or.inl q
      · exact Or.inr (Or.inl q)
      · exact Or.inr (Or.inr q)
    · cases h
  · cases h
theorem nr_pop (h : am_pop ls st = some (n', ls', st')) : nr ls st ls' st' := by
  unfold am_pop at h
  split at h
  · split at h
    · cases h
      exact nr_sub (fun a q => Or.inr (List.mem_cons_of_mem _ q))
    · cases h
  · cases h
theorem nr_pop2 (h : am_pop2 ls st = some (n', ls', st')) : nr ls st ls' st' := by
  unfold am_pop2 at h
  split at h
  · split at h
    · cases h
      exact nr_sub (fun a q => Or.inr (List.mem_cons_of_mem _ q))
    · cases h
  · cases h
theorem nr_pi {o : Nat} {ii : Instr} (h : am_pi o ii ls st = some (n', ls', st')) : nr ls st ls' st' := by
  unfold am_pi at h
  split at h
  all_goals first
    | exact nr_ldi h
    | exact nr_ldl h
    | exact nr_lda h
    | exact nr_sti h
    | exact nr_stl h
    | exact nr_sta h
    | exact nr_inc h
    | exact nr_i2 h
    | exact nr_i2n h
    | exact nr_i1 (fun x a => by intro q; cases q) h
    | exact nr_l2 (fun x y a => by intro q; cases q) h
    | exact nr_l1 (fun x a => by intro q; cases q) h
    | exact nr_li h
    | exact nr_dup h
    | exact nr_dup2 h
    | exact nr_pop h
    | exact nr_pop2 h
    | (cases h; exact nr_push (fun a => by intro q; cases q))
    | (obtain ⟨v, _, h2⟩ := Option.map_eq_some_iff.mp h; cases h2; exact nr_push (fun a => by intro q; cases q))
    | cases h
theorem nr_bi {ii : Instr} {c : Bool} {off : Int} (h : am_bi ii st = some (c, off, st')) : ∀ a, Value.ref a ∈ st' → Value.ref a ∈ st := by
  unfold am_bi at h
  repeat' split at h
  all_goals first
    | (cases h; exact fun a q => List.mem_cons_of_mem _ q)
    | (cases h; exact fun a q => List.mem_cons_of_mem _ (List.mem_cons_of_mem _ q))
    | (cases h; exact fun a q => q)
    | cases h
theorem nr_sw {ii : Instr} {off : Int} (h : am_sw ii st = some (off, st')) : ∀ a, Value.ref a ∈ st' → Value.ref a ∈ st := by
  unfold am_sw at h
  repeat' split at h
  all_goals first
    | (cases h; exact fun a q => List.mem_cons_of_mem _ q)
    | (obtain ⟨v, _, h2⟩ := Option.map_eq_some_iff.mp h; cases h2; exact fun a q => List.mem_cons_of_mem _ q)
    | cases h
end NRS
/-- places of S lead to places of S alone -/
def Pcl (S : Nat → Prop) (P : List (List (Option Nat))) : Prop := ∀ a k b, S a → am_pg P a k = some b → S b
def aS (S : Nat → Prop) (l : List Value) : Prop := ∀ a, Value.ref a ∈ l → S a
section SEP
variable {X : am_X} {S : Nat → Prop} {ls st st' : List Value} {σ σ' : am_M} {n' o : Nat} {ii : Instr}
theorem sp_rf {P : List (List (Option Nat))} {a k : Nat} {b : Nat} (hP : Pcl S P) (ha : S a) (h : Value.ref b = va_rf (am_pg P a k)) : S b := by
  cases hq : am_pg P a k with
  | none => rw [hq] at h; cases h
  | some c =>
    rw [hq] at h
    have h : Value.ref b = Value.ref c := h
    injection h with h
    subst h
    exact hP _ _ _ ha hq
theorem sp_fa {a k b : Nat} {ty : FieldType} (hP : Pcl S σ.2.2.2.1) (ha : S a) (h : Value.ref b = am_fa σ a k ty) : S b := by
  unfold am_fa at h
  split at h
  · cases h
  · exact sp_rf hP ha h
  · exact sp_rf hP ha h
  · cases h
theorem sp_rd (hP : Pcl S σ.2.2.2.1) (hs : aS S st) (h : am_rd X o ii st σ = some (n', st')) : aS S st' := by
  unfold am_rd at h
  split at h
  · split at h
    · split at h
      · split at h
        · cases h
          intro b q
          rcases List.mem_cons.mp q with q | q
          · exact sp_fa hP (hs _ List.mem_cons_self) q
          · exact hs b (List.mem_cons_of_mem _ q)
        · cases h
      · cases h
    · cases h
  · split at h
    · split at h
      · split at h
        · split at h
          · cases h
            intro b q
            rcases List.mem_cons.mp q with q | q
            · cases q
            · exact hs b (List.mem_cons_of_mem _ (List.mem_cons_of_mem _ q))
          · cases h
        · cases h
      · split at h
        · split at h
          · cases h
            intro b q
            rcases List.mem_cons.mp q with q | q
            · cases q
            · exact hs b (List.mem_cons_of_mem _ (List.mem_cons_of_mem _ q))
          · cases h
        · cases h
    · cases h
  · split at h
    · split at h
      · split at h
        · cases h
          intro b q
          rcases List.mem_cons.mp q with q | q
          · cases q
          · exact hs b (List.mem_cons_of_mem _ (List.mem_cons_of_mem _ q))
        · cases h
      · cases h
    · cases h
  · split at h
    · split at h
      · split at h
        · cases h
          intro b q
          rcases List.mem_cons.mp q with q | q
          · exact sp_rf hP (hs _ (List.mem_cons_of_mem _ List.mem_cons_self)) q
          · exact hs b (List.mem_cons_of_mem _ (List.mem_cons_of_mem _ q))
        · cases h
      · cases h
    · cases h
  · split at h
    · split at h
      · obtain ⟨v, _, h2⟩ := Option.map_eq_some_iff.mp h
        cases h2
        intro b q
        rcases List.mem_cons.mp q with q | q
        · cases q
        · exact hs b (List.mem_cons_of_mem _ q)
      · split at h
        · split at h
          · cases h
            intro b q
            rcases List.mem_cons.mp q with q | q
            · cases q
            · exact hs b (List.mem_cons_of_mem _ q)
          · cases h
        · cases h
    · cases h
  · cases h
/-- what of the memory is told of a run -/
def Sk (S : Nat → Prop) (σ σ' : am_M) : Prop := (Pcl S σ'.2.2.2.1 ∧ σ.1.length ≤ σ'.1.length) ∧ (∀ a, ¬ S a → σ'.2.1 a = σ.2.1 a ∧ σ'.2.2.1 a = σ.2.2.1 a)
theorem Sk.tr {σ'' : am_M} (h : Sk S σ σ') (h' : Sk S σ' σ'') : Sk S σ σ'' := ⟨⟨h'.1.1, Nat.le_trans h.1.2 h'.1.2⟩, fun a q => ⟨(h'.2 a q).1.trans (h.2 a q).1, (h'.2 a q).2.trans (h.2 a q).2⟩⟩
theorem Sk.rf (h : Pcl S σ.2.2.2.1) : Sk S σ σ := ⟨⟨h, Nat.le_refl _⟩, fun _ _ => ⟨rfl, rfl⟩⟩
theorem sp_up {α : Type} {f : Nat → Nat → α} {a k c : Nat} {v : α} (hc : ¬ S c) (ha : S a) : am_up f a k v c = f c := am_up_ne (fun e => hc (by rw [e]; exact ha))
theorem Pcl.ps {P : List (List (Option Nat))} {a k b : Nat} (h : Pcl S P) (hb : S b) : Pcl S (am_ps P a k (some b)) := by
  intro a' k' b' ha' h'
  unfold am_pg am_ps at h'
  rw [List.getD_eq_getElem?_getD, List.getD_eq_getElem?_getD, List.getElem?_set] at h'
  have old : am_pg P a' k' = some b' → S b' := fun e => h _ _ _ ha' e
  unfold am_pg at old
  rw [List.getD_eq_getElem?_getD, List.getD_eq_getElem?_getD] at old
  split at h'
  · rename_i e
    subst e
    split at h'
    · simp only [Option.getD_some] at h'
      rw [List.getElem?_set] at h'
      split at h'
      · split at h'
        · simp only [Option.getD_some] at h'
          injection h' with h'
          subst h'
          exact hb
        · cases h'
      · rw [List.getD_eq_getElem?_getD] at h'
        exact old h'
    · cases h'
  · exact old h'
theorem sp_pf {a k : Nat} {ty : FieldType} {v : Value} (hP : Pcl S σ.2.2.2.1) (ha : S a) (hv : ∀ b, v = .ref b → S b) (h : am_pf σ a k ty v = some σ') : Sk S σ σ' := by
  unfold am_pf at h
  split at h
  · cases h
    exact ⟨⟨hP, Nat.le_refl _⟩, fun c hc => ⟨rfl, sp_up hc ha⟩⟩
  · cases h
    exact ⟨⟨hP, Nat.le_refl _⟩, fun c hc => ⟨sp_up hc ha, rfl⟩⟩
  · split at h
    · cases h
      exact ⟨⟨hP, Nat.le_refl _⟩, fun c hc => ⟨sp_up hc ha, rfl⟩⟩
    · cases h
  · split at h
    · cases h
      exact ⟨⟨hP.ps (hv _ rfl), Nat.le_refl _⟩, fun c hc => ⟨rfl, rfl⟩⟩
    · cases h
  · split at h
    · cases h
      exact ⟨⟨hP.ps (hv _ rfl), Nat.le_refl _⟩, fun c hc => ⟨rfl, rfl⟩⟩
    · cases h
  · cases h
theorem sp_wr {ini : Nat} (hP : Pcl S σ.2.2.2.1) (hs : aS S st) (h : am_wr o ini ii st σ = some (n', st', σ')) : aS S st' ∧ Sk S σ σ' := by
  unfold am_wr at h
  split at h
  · split at h
    · split at h
      · split at h
        · obtain ⟨s, h1, h2⟩ := Option.map_eq_some_iff.mp h
          cases h2
          exact ⟨fun b q => hs b (List.mem_cons_of_mem _ (List.mem_cons_of_mem _ q)), sp_pf hP (hs _ (List.mem_cons_of_mem _ List.mem_cons_self)) (fun b e => hs b (by rw [e]; exact List.mem_cons_self)) h1⟩
        · cases h
      · cases h
    · cases h
  · split at h
    · split at h
      · split at h
        · cases h
          exact ⟨fun b q => hs b (List.mem_cons_of_mem _ (List.mem_cons_of_mem _ (List.mem_cons_of_mem _ q))), ⟨hP, Nat.le_refl _⟩, fun c hc => ⟨sp_up hc (hs _ (List.mem_cons_of_mem _ (List.mem_cons_of_mem _ List.mem_cons_self))), rfl⟩⟩
        · cases h
      · cases h
    · cases h
  · split at h
    · split at h
      · split at h
        · cases h
          exact ⟨fun b q => hs b (List.mem_cons_of_mem _ (List.mem_cons_of_mem _ (List.mem_cons_of_mem _ q))), ⟨hP, Nat.le_refl _⟩, fun c hc => ⟨sp_up hc (hs _ (List.mem_cons_of_mem _ (List.mem_cons_of_mem _ List.mem_cons_self))), rfl⟩⟩
        · cases h
      · cases h
    · cases h
  · split at h
    · split at h
      · split at h
        · cases h
          exact ⟨fun b q => hs b (List.mem_cons_of_mem _ (List.mem_cons_of_mem _ (List.mem_cons_of_mem _ q))), ⟨hP.ps (hs _ List.mem_cons_self), Nat.le_refl _⟩, fun c hc => ⟨rfl, rfl⟩⟩
        · cases h
      · cases h
    · cases h
  · cases h
theorem sp_ma (hs : aS S st) (h : am_ma o ii st = some st') : aS S st' := by
  unfold am_ma at h
  repeat' split at h
  all_goals first
    | (cases h; intro b q; rcases List.mem_cons.mp q with q | q; · cases q
       exact hs b (List.mem_cons_of_mem _ q))
    | (cases h; intro b q; rcases List.mem_cons.mp q with q | q; · cases q
       exact hs b (List.mem_cons_of_mem _ (List.mem_cons_of_mem _ q)))
    | cases h
theorem sp_fl (hs : aS S st) : aS S (am_fl st) := by
  induction st with
  | nil => exact hs
  | cons v vs ih =>
    have i1 := ih (fun a q => hs a (List.mem_cons_of_mem _ q))
    unfold am_fl
    split
    · intro b q
      rcases List.mem_cons.mp q with q | q
      · exact hs b (by rw [q]; exact List.mem_cons_self)
      · rcases List.mem_cons.mp q with q | q
        · cases q
        · exact i1 b q
    · intro b q
      rcases List.mem_cons.mp q with q | q
      · exact hs b (by rw [q]; exact List.mem_cons_self)
      · exact i1 b q
theorem sp_en {n : Nat} (hs : aS S st) : aS S (am_en n st) := by
  intro b q
  unfold am_en at q
  rcases List.mem_append.mp q with q | q
  · exact sp_fl hs b q
  · cases (List.mem_replicate.mp q).2
theorem aS.take {n : Nat} (hs : aS S st) : aS S ((st.take n).reverse) := fun b q => hs b (List.mem_of_mem_take (List.mem_reverse.mp q))
theorem aS.drop {n : Nat} (hs : aS S st) : aS S (st.drop n) := fun b q => hs b (List.mem_of_mem_drop q)
theorem aS.tl {v : Value} (hs : aS S (v :: st)) : aS S st := fun b q => hs b (List.mem_cons_of_mem _ q)
theorem aS.co {a : Nat} (hs : aS S st) (ha : S a) : aS S (.ref a :: st) := fun b q => by
  rcases List.mem_cons.mp q with q | q
  · injection q with q
    rw [q]
    exact ha
  · exact hs b q
theorem sp_ca {r : List Value} {m : Option (Nat × List Value)} (hs : aS S st) (h : am_ca o ii st σ = some (m, r)) : aS S r ∧ ∀ k as, m = some (k, as) → aS S as := by
  unfold am_ca at h
  split at h
  · split at h
    · split at h
      · cases h
        exact ⟨hs.drop, fun k as e => by cases e; exact hs.take⟩
      · cases h
    · cases h
  · split at h
    · split at h
      · rename_i b r' hd
        have hs' : aS S (.ref b :: r') := by rw [← hd]; exact hs.drop
        split at h
        · cases h
          exact ⟨hs'.tl, fun k as e => by cases e; exact hs.take.co (hs' _ List.mem_cons_self)⟩
        · cases h
      · cases h
    · cases h
  · split at h
    · split at h
      · rename_i b r' hd
        have hs' : aS S (.ref b :: r') := by rw [← hd]; exact hs.drop
        split at h
        · split at h
          · cases h
            exact ⟨hs'.tl, fun k as e => by cases e; exact hs.take.co (hs' _ List.mem_cons_self)⟩
          · split at h
            · cases h
              exact ⟨hs'.tl, fun k as e => by cases e⟩
            · cases h
        · cases h
      · cases h
    · cases h
  · cases h
theorem sp_rt {ret : Option FieldType} {v : Option Value} (hs : aS S st) (h : am_rt ret ii st = some v) : aS S v.toList := by
  unfold am_rt at h
  repeat' split at h
  all_goals first
    | (cases h; exact hs)
    | (cases h; intro b q; cases q)
    | cases h
theorem Pcl.row {P : List (List (Option Nat))} {c n : Nat} (h : Pcl S P) : Pcl S (P ++ [am_row c n]) := by
  intro a k b ha h'
  have old : am_pg P a k = some b → S b := fun e => h _ _ _ ha e
  unfold am_pg at h' old
  rw [List.getD_eq_getElem?_getD, List.getD_eq_getElem?_getD] at h' old
  rcases Nat.lt_or_ge a P.length with q | q
  · rw [List.getElem?_append_left q] at h'
    exact old h'
  · rw [List.getElem?_append_right q] at h'
    have z : ∀ m : Nat, ((am_row c n)[m]?).getD none = (none : Option Nat) := by
      intro m
      unfold am_row
      split
      · rfl
      · rw [List.getElem?_replicate]
        split <;> rfl
    cases hq : a - P.length with
    | zero =>
      rw [hq] at h'
      have h' : ((am_row c n)[k]?).getD none = some b := h'
      rw [z k] at h'
      cases h'
    | succ m =>
      rw [hq] at h'
      cases h'
theorem sp_mk {c n : Nat} (hP : Pcl S σ.2.2.2.1) (hL : ∀ a, σ.1.length ≤ a → S a) : Sk S σ (am_mk σ c n) := by
  refine ⟨⟨hP.row, ?_⟩, fun a q => ?_⟩
  · show σ.1.length ≤ (σ.1 ++ [(c, n)]).length
    rw [List.length_append]
    exact Nat.le_add_right _ _
  · have e : a ≠ σ.1.length := fun e => q (hL a (by omega))
    exact ⟨va_up_ne _ _ e, va_up_ne _ _ e⟩
theorem sp_al (hP : Pcl S σ.2.2.2.1) (hL : ∀ a, σ.1.length ≤ a → S a) (hs : aS S st) (h : am_al o ii st σ = some (n', st', σ')) : aS S st' ∧ Sk S σ σ' := by
  have hn : S σ.1.length := hL _ (Nat.le_refl _)
  unfold am_al at h
  split at h
  · split at h
    · split at h
      · cases h
        exact ⟨hs.co hn, sp_mk hP hL⟩
      · cases h
    · cases h
  · split at h
    · split at h
      · split at h
        · cases h
          exact ⟨hs.tl.co hn, sp_mk hP hL⟩
        · cases h
          exact ⟨hs.tl.co hn, sp_mk hP hL⟩
        · cases h
      · cases h
    · cases h
  · split at h
    · split at h
      · split at h
        · cases h
          exact ⟨hs.tl.co hn, sp_mk hP hL⟩
        · cases h
      · cases h
    · cases h
  · cases h
end SEP
theorem am_sep {X : am_X} {S : Nat → Prop} : ∀ (n d j pc : Nat) (ls st : List Value) (σ : am_M) (v : Option Value) (σ' : am_M), am_ev X n d j pc ls st σ = some (v, σ') → aS S ls → aS S st → Pcl S σ.2.2.2.1 → (∀ a, σ.1.length ≤ a → S a) → aS S v.toList ∧ Sk S σ σ' := by
  intro n
  induction n with
  | zero => intro d j pc ls st σ v σ' h; exact absurd h (by intro z; cases z)
  | succ n IH =>
    intro d j pc ls st σ v σ' h hl hs hP hL
    have h : am_one X (am_ev X n) d j pc ls st σ = some (v, σ') := h
    unfold am_one at h
    split at h
    · cases h
    · split at h
      · rename_i hp
        split at h
        · have q := nr_pi hp
          exact IH _ _ _ _ _ _ _ _ h (fun a w => (q.1 a w).elim (hl a) (hs a)) (fun a w => (q.2 a w).elim (hl a) (hs a)) hP hL
        · cases h
      · split at h
        · rename_i hb
          have q := nr_bi hb
          split at h
          · split at h
            · exact IH _ _ _ _ _ _ _ _ h hl (fun a w => hs a (q a w)) hP hL
            · exact IH _ _ _ _ _ _ _ _ h hl (fun a w => hs a (q a w)) hP hL
          · cases h
        · split at h
          · rename_i hb
            have q := nr_sw hb
            split at h
            · exact IH _ _ _ _ _ _ _ _ h hl (fun a w => hs a (q a w)) hP hL
            · cases h
          · split at h
            · rename_i hb
              split at h
              · exact IH _ _ _ _ _ _ _ _ h hl (sp_rd hP hs hb) hP hL
              · cases h
            · split at h
              · rename_i hb
                obtain ⟨q1, q2⟩ := sp_wr hP hs hb
                split at h
                · obtain ⟨r1, r2⟩ := IH _ _ _ _ _ _ _ _ h hl q1 q2.1.1 (fun a w => hL a (Nat.le_trans q2.1.2 w))
                  exact ⟨r1, q2.tr r2⟩
                · cases h
              · split at h
                · rename_i hb
                  obtain ⟨q1, q2⟩ := sp_al hP hL hs hb
                  split at h
                  · obtain ⟨r1, r2⟩ := IH _ _ _ _ _ _ _ _ h hl q1 q2.1.1 (fun a w => hL a (Nat.le_trans q2.1.2 w))
                    exact ⟨r1, q2.tr r2⟩
                  · cases h
                · split at h
                  · rename_i hb
                    obtain ⟨q1, q2⟩ := sp_ca hs hb
                    split at h
                    · split at h
                      · rename_i he
                        obtain ⟨r1, r2⟩ := IH _ _ _ _ _ _ _ _ he (sp_en (q2 _ _ rfl)) (fun a w => by cases w) hP hL
                        obtain ⟨t1, t2⟩ := IH _ _ _ _ _ _ _ _ h hl (fun a w => (List.mem_append.mp w).elim (r1 a) (q1 a)) r2.1.1 (fun a w => hL a (Nat.le_trans r2.1.2 w))
                        exact ⟨t1, r2.tr t2⟩
                      · cases h
                    · cases h
                  · rename_i hb
                    obtain ⟨q1, q2⟩ := sp_ca hs hb
                    split at h
                    · exact IH _ _ _ _ _ _ _ _ h hl q1 hP hL
                    · cases h
                  · split at h
                    · rename_i hb
                      split at h
                      · exact IH _ _ _ _ _ _ _ _ h hl (sp_ma hs hb) hP hL
                      · cases h
                    · split at h
                      · obtain ⟨w, h1, h2⟩ := Option.map_eq_some_iff.mp h
                        cases h2
                        exact ⟨sp_rt hs h1, Sk.rf hP⟩
                      · cases h
theorem am_wp_sep {X : am_X} {S : Nat → Prop} {d j pc : Nat} {ls st : List Value} {σ : am_M} {Q : Option Value → am_M → Prop} (h : am_wp X d j pc ls st σ Q) (hl : aS S ls) (hs : aS S st) (hP : Pcl S σ.2.2.2.1) (hL : ∀ a, σ.1.length ≤ a → S a) : am_wp X d j pc ls st σ (fun v σ' => Q v σ' ∧ ∀ a, ¬ S a → σ'.2.1 a = σ.2.1 a) := by
  obtain ⟨n, v, s, e, q⟩ := h
  exact ⟨n, v, s, e, q, fun a ha => ((am_sep _ _ _ _ _ _ _ _ _ e hl hs hP hL).2.2 a ha).1⟩
/-- the reference keeps to its own -/
def Rf (a : Nat) : Prop := 105 ≤ a
theorem rf_row : am_P0.zipIdx.all (fun r => decide (r.2 < 105) || r.1.all (fun b => match b with | none => true | some c => decide (105 ≤ c))) = true := by decide +kernel
theorem rf_P : Pcl Rf am_P0 := by
  intro a k b ha h
  unfold am_pg at h
  rw [List.getD_eq_getElem?_getD, List.getD_eq_getElem?_getD] at h
  cases hq : am_P0[a]? with
  | none => rw [hq] at h; cases h
  | some r =>
    rw [hq] at h
    simp only [Option.getD_some] at h
    have hm : (r, a) ∈ am_P0.zipIdx := List.mem_zipIdx_iff_getElem?.mpr hq
    have h1 := List.all_eq_true.mp rf_row _ hm
    have hn : ¬ a < 105 := fun q => absurd ha (by unfold Rf; omega)
    simp only [decide_eq_false hn, Bool.false_or] at h1
    cases hk : r[k]? with
    | none => rw [hk] at h; cases h
    | some w =>
      rw [hk] at h
      simp only [Option.getD_some] at h
      subst h
      exact of_decide_eq_true (p := 105 ≤ b) (List.all_eq_true.mp h1 _ (List.mem_of_getElem? hk))
theorem rf_len : 105 ≤ am_K0.length := by decide +kernel
theorem am_wp_rf {X : am_X} {d j pc : Nat} {ls st : List Value} {I : Nat → Nat → Int32} {J : Nat → Nat → Int64} {Q : Option Value → am_M → Prop} (h : am_wp X d j pc ls st (am_N I J) Q) (hl : aS Rf ls) (hs : aS Rf st) : am_wp X d j pc ls st (am_N I J) (fun v σ' => Q v σ' ∧ ∀ a, a < 105 → σ'.2.1 a = I a) :=
  am_wp_to (am_wp_sep h hl hs rf_P (fun a q => by have := rf_len; unfold Rf; show 105 ≤ a; have q : am_K0.length ≤ a := q; omega)) (fun v s q => ⟨q.1, fun a ha => q.2 a (by unfold Rf; omega)⟩)
