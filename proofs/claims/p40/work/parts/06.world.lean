/-! THE WORLD: how a memory of the abstract machine lies in the heap -/
def am_ad (b h0 k : Nat) : Nat := if k = am_scr then b else h0 + k
def am_v (b h0 : Nat) (v : Value) : Value := match v with
  | .ref k => .ref (am_ad b h0 k)
  | v => v
theorem am_v_int (b h0 : Nat) (x : Int32) : am_v b h0 (.int x) = .int x := rfl
theorem am_v_long (b h0 : Nat) (x : Int64) : am_v b h0 (.long x) = .long x := rfl
theorem am_v_null (b h0 : Nat) : am_v b h0 .null = .null := rfl
theorem am_v_ref (b h0 k : Nat) : am_v b h0 (.ref k) = .ref (am_ad b h0 k) := rfl
theorem am_v_cat (b h0 : Nat) (v : Value) : (am_v b h0 v).category = v.category := by cases v <;> rfl
theorem am_v_rf (b h0 : Nat) (r : Option Nat) : am_v b h0 (va_rf r) = va_rf (r.map (am_ad b h0)) := by cases r <;> rfl
theorem am_ad_lt {b h0 k n : Nat} (h : k < n) (hn : n ≤ am_scr) : am_ad b h0 k = h0 + k := by
  unfold am_ad
  rw [if_neg (by omega)]
theorem am_ad_scr (b h0 : Nat) : am_ad b h0 am_scr = b := by simp [am_ad]
def am_fv (b h0 : Nat) (σ : am_M) (a k : Nat) (ty : FieldType) : Value := am_v b h0 (am_fa σ a k ty)
def am_e (b h0 : Nat) (cy : Nat → ClassId) (σ : am_M) (a : Nat) : va_E := match σ.1[a]? with
  | none => .inr (0, [])
  | some (c, n) => if c < 50 then .inr (c, (List.range n).map (fun k => am_fv b h0 σ a k (am_ty c k))) else if c < 52 then .inl (cy (c - 50), n, .inl (σ.2.1 a)) else .inl (cy (c - 50), n, .inr (.inr (.inr (.inr (fun j => (am_pg σ.2.2.2.1 a j).map (am_ad b h0))))))
def am_W (b h0 : Nat) (cy : Nat → ClassId) (σ : am_M) : va_W := (List.range σ.1.length).map (fun a => (h0 + a, am_e b h0 cy σ a))
theorem am_W_get {b h0 : Nat} {cy : Nat → ClassId} {σ : am_M} {a : Nat} (h : a < σ.1.length) : (am_W b h0 cy σ)[a]? = some (h0 + a, am_e b h0 cy σ a) := by
  unfold am_W
  rw [List.getElem?_map, List.getElem?_range h]
  rfl
theorem am_W_inv {b h0 : Nat} {cy : Nat → ClassId} {σ : am_M} {a : Nat} {q : Nat × va_E} (h : (am_W b h0 cy σ)[a]? = some q) : a < σ.1.length ∧ q = (h0 + a, am_e b h0 cy σ a) := by
  have hl : a < σ.1.length := by
    have := (List.getElem?_eq_some_iff.mp h).1
    simpa [am_W] using this
  rw [am_W_get hl] at h
  exact ⟨hl, (Option.some.inj h).symm⟩
theorem am_W_len (b h0 : Nat) (cy : Nat → ClassId) (σ : am_M) : (am_W b h0 cy σ).length = σ.1.length := by simp [am_W]
theorem am_W_D (b h0 : Nat) (cy : Nat → ClassId) (σ : am_M) : va_D (fun q => h0 ≤ q) (am_W b h0 cy σ) := by
  refine ⟨fun i j p q hp hq he => ?_, fun k q hq => ?_⟩
  · rw [(am_W_inv hp).2, (am_W_inv hq).2] at he
    have : h0 + i = h0 + j := he
    omega
  · rw [(am_W_inv hq).2]
    exact Nat.le_add_right _ _
/-- the type of a row, by its number -/
def am_aty (t : Nat) : FieldType := if t = 0 then .int else if t = 1 then .boolean else .object (am_C (am_acl (t - 2))).1
def am_tys (cy : Nat → ClassId) : List (ClassId × FieldType) := (List.range (2 + T_arr.length)).map (fun t => (cy t, am_aty t))
theorem am_tys_get {cy : Nat → ClassId} {t : Nat} (h : t < 2 + T_arr.length) : (am_tys cy)[t]? = some (cy t, am_aty t) := by
  unfold am_tys
  rw [List.getElem?_map, List.getElem?_range h]
  rfl
/-- the heap holds the memory -/
def am_H (D : va_G) (b h0 : Nat) (cy : Nat → ClassId) (σ : am_M) (H : Heap) : Prop := va_P D vwCl (am_W b h0 cy σ) H ∧ H.size = h0 + σ.1.length ∧ σ.1.length ≤ am_scr
def am_isN (w : Cond) : Bool := match w with
  | .methodLinkNest _ _ _ _ => true
  | _ => false
/-- what the tables say, at a state -/
def am_S (D : va_G) (b h0 : Nat) (cy : Nat → ClassId) (X : am_X) (U : State) : Prop := va_K D vwCl (am_tys cy) U ∧ (∀ w ∈ lw_tbl, am_isN w = true → va_Nw w U) ∧ (∀ t, t < T_arr.length → va_AO (am_C (am_acl t)).1 U) ∧ (∀ Y, X = some Y → va_X b Y.1 Y.2 U U.heap) ∧ b < h0 ∧ h0 ≤ U.heap.size
theorem am_S.warm {D : va_G} {b h0 : Nat} {cy : Nat → ClassId} {X : am_X} {s U : State} (h : am_S D b h0 cy X s) (hW : s.WarmedH U.vm) (hh : U.heap[b]? = s.heap[b]?) (hz : h0 ≤ U.heap.size) : am_S D b h0 cy X U := by
  obtain ⟨h1, h2, h3, h4, h5, h6⟩ := h
  refine ⟨va_K.moved hW.alike h1, fun w hw hn => ?_, fun t ht => va_AO.moved hW.alike (h3 t ht), fun Y hY => (va_X.moved hW.alike (h4 Y hY)).kept hh, h5, hz⟩
  have h7 := h2 w hw hn
  cases w with
  | methodLinkNest a i x g => exact va_Nw.warmM hW h7
  | _ => simp [am_isN] at hn
theorem am_S.scr {D : va_G} {b h0 : Nat} {cy : Nat → ClassId} {X : am_X} {s : State} {H : Heap} {locs : List Loc} (h : am_S D b h0 cy X s) (hS : va_S (fun q => h0 ≤ q) s.heap H locs) : H[b]? = s.heap[b]? := hS.2.1 b (by have := h.2.2.2.2.1; have := h.2.2.2.2.2; omega) (by have := h.2.2.2.2.1; omega)
/-- the locals -/
def am_L (b h0 : Nat) (lsA : Array Slot) (nL : Nat) (ls : List Value) : Prop := ls.length = nL ∧ lsA.size = nL ∧ lv_wf lsA ∧ ∀ (i : Nat) (v : Value), ls[i]? = some v → (∀ r, v ≠ .retAddr r) → lsA[i]? = some (.val (am_v b h0 v))
def am_las (b h0 : Nat) (ls : List Value) : List (Nat × Value) := (List.range ls.length).filterMap (fun i => match ls[i]? with
  | some (Value.retAddr _) => none
  | some v => some (i, am_v b h0 v)
  | none => none)
theorem am_las_in {b h0 : Nat} {ls : List Value} {i : Nat} {v : Value} (h : ls[i]? = some v) (hv : ∀ r, v ≠ .retAddr r) : (i, am_v b h0 v) ∈ am_las b h0 ls := by
  refine List.mem_filterMap.mpr ⟨i, List.mem_range.mpr (List.getElem?_eq_some_iff.mp h).1, ?_⟩
  rw [h]
  cases v with
  | retAddr r => exact absurd rfl (hv r)
  | _ => rfl
theorem am_las_of {b h0 : Nat} {ls : List Value} {q : Nat × Value} (h : q ∈ am_las b h0 ls) : ∃ v, ls[q.1]? = some v ∧ (∀ r, v ≠ .retAddr r) ∧ q.2 = am_v b h0 v := by
  obtain ⟨i, -, hi⟩ := List.mem_filterMap.mp h
  cases hv : ls[i]? with
  | none => rw [hv] at hi; cases hi
  | some v =>
    rw [hv] at hi
    cases v with
    | retAddr r => cases hi
    | _ => cases hi; exact ⟨_, hv, (fun r hh => by cases hh), rfl⟩
theorem am_L.has {b h0 nL : Nat} {lsA : Array Slot} {ls : List Value} (h : am_L b h0 lsA nL ls) : lv_has lsA nL (am_las b h0 ls) := by
  refine ⟨h.2.1, h.2.2.1, fun q hq => ?_⟩
  obtain ⟨v, h1, h2, h3⟩ := am_las_of hq
  rw [h3]
  exact h.2.2.2 q.1 v h1 h2
theorem am_L.at {b h0 nL : Nat} {lsA : Array Slot} {ls : List Value} (h : am_L b h0 lsA nL ls) {i : Nat} {v : Value} (hv : ls.getD i am_uv = v) (hr : ∀ r, v ≠ .retAddr r) : lsA[i]? = some (.val (am_v b h0 v)) := by
  refine h.2.2.2 i v ?_ hr
  rw [List.getD_eq_getElem?_getD] at hv
  cases hi : ls[i]? with
  | none => rw [hi] at hv; exact absurd hv.symm (hr 0)
  | some w => rw [hi] at hv; exact congrArg some hv
theorem am_L.st1 {b h0 nL : Nat} {lsA lsA' : Array Slot} {ls ls' : List Value} {i : Nat} {v : Value} (h : am_L b h0 lsA nL ls) (hs : am_s1 ls i v = some ls') (h' : lv_has lsA' nL ((i, am_v b h0 v) :: (am_las b h0 ls).filter (fun q => !(q.1 == i) && !(q.1 + 1 == i && q.2.category == 2)))) : am_L b h0 lsA' nL ls' := by
  unfold am_s1 at hs
  split at hs
  case isFalse => cases hs
  case isTrue hc =>
    cases hs
    refine ⟨by rw [List.length_set]; exact h.1, h'.1, h'.2.1, fun x w hx hw => ?_⟩
    by_cases hxi : x = i
    · subst hxi
      rw [List.getElem?_set_self hc.1] at hx
      cases hx
      exact h'.2.2 _ List.mem_cons_self
    · rw [List.getElem?_set_ne (Ne.symm hxi)] at hx
      refine h'.2.2 (x, am_v b h0 w) (List.mem_cons_of_mem _ (List.mem_filter.mpr ⟨am_las_in hx hw, ?_⟩))
      have e1 : (x == i) = false := by simpa using hxi
      have e2 : (x + 1 == i && (am_v b h0 w).category == 2) = false := by
        by_cases hxx : x + 1 = i
        · have e3 : w.category = 1 := by
            rcases hc.2 with q | q
            · omega
            · rw [← hxx, Nat.add_sub_cancel, List.getD_eq_getElem?_getD, hx] at q
              exact q
          rw [am_v_cat, e3]
          simp
        · simp [hxx]
      simp only [e1, e2, Bool.not_false, Bool.and_self]
theorem am_L.st2 {b h0 nL : Nat} {lsA lsA' : Array Slot} {ls ls' : List Value} {i : Nat} {v : Value} (h : am_L b h0 lsA nL ls) (hs : am_s2 ls i v = some ls') (h' : lv_has lsA' nL ((i, am_v b h0 v) :: (am_las b h0 ls).filter (fun q => !(q.1 == i) && (!(q.1 == i + 1) && !(q.1 + 1 == i && q.2.category == 2))))) : am_L b h0 lsA' nL ls' := by
  unfold am_s2 at hs
  split at hs
  case isFalse => cases hs
  case isTrue hc =>
    cases hs
    refine ⟨by rw [List.length_set, List.length_set]; exact h.1, h'.1, h'.2.1, fun x w hx hw => ?_⟩
    by_cases hx1 : x = i + 1
    · subst hx1
      rw [List.getElem?_set_self (by rw [List.length_set]; exact hc.1)] at hx
      cases hx
      exact absurd rfl (hw 0)
    · rw [List.getElem?_set_ne (Ne.symm hx1)] at hx
      by_cases hxi : x = i
      · subst hxi
        rw [List.getElem?_set_self (by omega)] at hx
        cases hx
        exact h'.2.2 _ List.mem_cons_self
      · rw [List.getElem?_set_ne (Ne.symm hxi)] at hx
        refine h'.2.2 (x, am_v b h0 w) (List.mem_cons_of_mem _ (List.mem_filter.mpr ⟨am_las_in hx hw, ?_⟩))
        have e1 : (x == i) = false := by simpa using hxi
        have e4 : (x == i + 1) = false := by simpa using hx1
        have e2 : (x + 1 == i && (am_v b h0 w).category == 2) = false := by
          by_cases hxx : x + 1 = i
          · have e3 : w.category = 1 := by
              rcases hc.2 with q | q
              · omega
              · rw [← hxx, Nat.add_sub_cancel, List.getD_eq_getElem?_getD, hx] at q
                exact q
            rw [am_v_cat, e3]
            simp
          · simp [hxx]
        simp only [e1, e2, e4, Bool.not_false, Bool.and_self]
theorem am_s1_lt {ls ls' : List Value} {i : Nat} {v : Value} (hs : am_s1 ls i v = some ls') : i < ls.length := by
  unfold am_s1 at hs
  split at hs
  case isFalse => cases hs
  case isTrue hc => exact hc.1
theorem am_s2_lt {ls ls' : List Value} {i : Nat} {v : Value} (hs : am_s2 ls i v = some ls') : i + 1 < ls.length := by
  unfold am_s2 at hs
  split at hs
  case isFalse => cases hs
  case isTrue hc => exact hc.1
-- the entry
theorem am_fl_in (b h0 : Nat) : ∀ (as : List Value) (k i : Nat) (v : Value), (am_fl as)[i]? = some v → (∀ r, v ≠ .retAddr r) → (k + i, am_v b h0 v) ∈ lv_args k (as.map (am_v b h0)) := by
  intro as
  induction as with
  | nil => intro k i v h; simp [am_fl] at h
  | cons a as ih =>
    intro k i v h hv
    unfold am_fl at h
    show _ ∈ (k, am_v b h0 a) :: lv_args (if (am_v b h0 a).category = 2 then k + 2 else k + 1) (as.map (am_v b h0))
    rw [am_v_cat]
    by_cases hc : a.category = 2
    · rw [if_pos hc] at h ⊢
      match i, h with
      | 0, h => cases h; exact List.mem_cons_self
      | 1, h => cases h; exact absurd rfl (hv 0)
      | i + 2, h =>
        refine List.mem_cons_of_mem _ ?_
        have := ih (k + 2) i v (by simpa using h) hv
        rw [show k + (i + 2) = k + 2 + i by omega]
        exact this
    · rw [if_neg hc] at h ⊢
      match i, h with
      | 0, h => cases h; exact List.mem_cons_self
      | i + 1, h =>
        refine List.mem_cons_of_mem _ ?_
        have := ih (k + 1) i v (by simpa using h) hv
        rw [show k + (i + 1) = k + 1 + i by omega]
        exact this
theorem am_fl_len (b h0 : Nat) : ∀ as : List Value, (lg_sl (as.map (am_v b h0))).length = (am_fl as).length := by
  intro as
  induction as with
  | nil => rfl
  | cons a as ih =>
    unfold am_fl
    by_cases hc : a.category = 2
    · rw [if_pos hc]
      cases a <;> simp_all [lg_sl, Value.category, am_v]
    · rw [if_neg hc]
      cases a <;> simp_all [lg_sl, Value.category, am_v]
theorem am_en_L {b h0 n : Nat} {as : List Value} (h : (am_fl as).length ≤ n) : am_L b h0 ((lg_sl (as.map (am_v b h0)) ++ List.replicate (n - (lg_sl (as.map (am_v b h0))).length) Slot.unset).toArray) n (am_en n as) := by
  have hl := lv_entry (as.map (am_v b h0)) (n := n) (by rw [am_fl_len]; exact h)
  refine ⟨?_, hl.1, hl.2.1, fun i v hi hv => ?_⟩
  · unfold am_en
    rw [List.length_append, List.length_replicate]
    omega
  · unfold am_en at hi
    by_cases hlt : i < (am_fl as).length
    · rw [List.getElem?_append_left hlt] at hi
      have := am_fl_in b h0 as 0 i v hi hv
      rw [Nat.zero_add] at this
      exact hl.2.2 _ this
    · rw [List.getElem?_append_right (by omega)] at hi
      have := List.mem_of_getElem? hi
      rw [List.mem_replicate] at this
      exact absurd this.2 (hv 0)
