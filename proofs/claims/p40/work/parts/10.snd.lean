/-! CALLS, ENDS, AND THE WHOLE -/
theorem am_S.calling {D : va_G} {b h0 : Nat} {cy : Nat → ClassId} {X : am_X} {U : State} {g : JFrame} {mk : MethodId} {a : Array Value} (h : am_S D b h0 cy X U) : am_S D b h0 cy X (U.calling g mk a) := by
  obtain ⟨h1, h2, h3, h4, h5, h6⟩ := h
  refine ⟨va_K.moved (u := U) (U := U.calling g mk a) (Vm.Alike.refl U.vm) h1, fun w hw hn => ?_, fun t ht => va_AO.moved (u := U) (U := U.calling g mk a) (Vm.Alike.refl U.vm) (h3 t ht), fun Y hY => va_X.moved (u := U) (U := U.calling g mk a) (Vm.Alike.refl U.vm) (h4 Y hY), h5, h6⟩
  have h7 := h2 w hw hn
  cases w with
  | methodLinkNest a i x g => exact va_Nw.same rfl rfl h7
  | _ => simp [am_isN] at hn
def am_ws (j : Nat) : List Cond := Cond.code (T_y j) (T_code j) (T_mxl j) (T_ret j) :: am_gw
def am_rm (d mc ms : Nat) : Room := { frames := d, cells := mc, slots := ms, locals := 33 * d }
def am_Pc (D : va_G) (b h0 : Nat) (cy : Nat → ClassId) (X : am_X) (as : List Value) (σ : am_M) : Array Value → State → Prop := va_Pc (as.map (am_v b h0)) (fun U => am_S D b h0 cy X U ∧ am_H D b h0 cy σ U.heap)
def am_Qc (D : va_G) (b h0 : Nat) (cy : Nat → ClassId) (v : Option Value) (σ' : am_M) : Array Value → State → Outcome → State → Prop := fun _ st oc t => oc = .returned (v.map (am_v b h0)) ∧ am_H D b h0 cy σ' t.heap ∧ va_F (fun q => h0 ≤ q) st t
theorem am_okM {j : Nat} (hj : j < T_m.length) (ho : T_own j ≠ vwCl.length) : Cond.code (T_y j) (T_code j) (T_mxl j) (T_ret j) ∈ am_gw ∧ (T_y j).cls = T_R (T_own j) ∧ T_mxl j ≤ 14 ∧ plainName (T_y j).cls = true ∧ (T_ini j = 1 → (T_y j).name = "<init>") ∧ (T_own j < vwCl.length → T_R (T_own j) = (am_C (T_own j)).1) ∧ ((T_y j).cls ≠ "java/lang/invoke/MethodHandle" ∧ (T_y j).cls ≠ "java/lang/invoke/VarHandle") := by
  have hm : T_m.getD j (0, ByteArray.empty, yX0_init, 0, none, 0, 0, 0) ∈ T_m := by
    rw [List.getD_eq_getElem?_getD, List.getElem?_eq_getElem hj]
    exact List.getElem_mem hj
  have h1 := List.all_eq_true.mp am_tM _ hm
  unfold T_own at ho
  unfold T_y T_code T_mxl T_ret T_own T_ini
  generalize T_m.getD j (0, ByteArray.empty, yX0_init, 0, none, 0, 0, 0) = r at h1 ho ⊢
  unfold am_cM at h1
  rw [Bool.or_eq_true] at h1
  rcases h1 with h1 | h1
  · exact absurd (of_decide_eq_true h1) ho
  · rw [Bool.and_eq_true, Bool.and_eq_true, Bool.and_eq_true, Bool.and_eq_true, Bool.and_eq_true, Bool.and_eq_true] at h1
    obtain ⟨a1, a2, a3, a4, a5, a6, a7⟩ := h1
    exact ⟨am_hc_in a1, of_decide_eq_true a2, of_decide_eq_true a3, a4, of_decide_eq_true a5, of_decide_eq_true a6, of_decide_eq_true a7⟩
theorem am_gi {j : Nat} (h : Cond.code (T_y j) (T_code j) (T_mxl j) (T_ret j) ∈ am_gw) : GoodIn am_gw (am_ws j) := by
  intro w hw
  rcases List.mem_cons.mp hw with e | hw
  · rw [e]
    exact ⟨h, am_gw_good h⟩
  · exact ⟨hw, am_gw_good hw⟩
section AMR
variable {p : Program} {l : Launch} {e : Env} {R : Room} {s : State} {m : MethodId} {args : Array Value} {below : List Frame} {meth : Method} {c : Code} {H : Heap} {locs : List Loc} {cells slots : Nat} {Q : State → Prop}
variable {cc : ByteArray} {pc : Nat} {lsA : Array Slot} {b h0 : Nat} {D : va_G} {cy : Nat → ClassId} {X : am_X} {σ σ' : am_M}
set_option maxHeartbeats 1000000 in
theorem am_ret_ok (hx : p.tables.exec = Jvm.exec) (hb : c.code = cc) {ret : Option FieldType} (hr : meth.sig.returnType = ret) (hlocks : meth.locks = false) {Qc : Array Value → State → Outcome → State → Prop} {free : Addr → Prop} {i : Instr} {st : List Value} {v : Option Value} (hd : decode cc pc = .ok (i, 1)) (h : am_rt ret i st = some v)
    (hq : ∀ t : State, t.heap = H → s.WarmedH t.vm → Qc args s (.returned (v.map (am_v b h0))) t) (hf : ∀ q ∈ locs, free q.base) : W p l e R s m args below meth c H locs cells slots (MQ below Qc args s cells slots free) (F0 m pc lsA (st.map (am_v b h0))) := by
  cases i
  case ireturn =>
    unfold am_rt at h
    dsimp only at h
    split at h
    · rename_i x
      split at h
      · rename_i hc
        cases h
        rcases hc with hc | hc
        · exact W.iret hx hb (hr.trans hc) hq hf hd hlocks
        · exact W.zret hx hb (hr.trans hc.1) (by rcases hc.2 with z | z <;> rw [z] <;> decide) hq hf hd hlocks
      · cases h
    · cases h
  case lreturn =>
    unfold am_rt at h
    dsimp only at h
    split at h
    · split at h
      · rename_i hc
        cases h
        exact W.lret hx hb (hr.trans hc) hq hf hd hlocks
      · cases h
    · cases h
  case areturn =>
    unfold am_rt at h
    dsimp only at h
    split at h
    · split at h
      · cases h
        exact W.aret hx hb hr (Or.inl ⟨_, rfl⟩) (Or.inr ⟨_, rfl⟩) hq hf hd hlocks
      · cases h
    · split at h
      · cases h
        exact W.aret hx hb hr (Or.inl ⟨_, rfl⟩) (Or.inl rfl) hq hf hd hlocks
      · cases h
    · cases h
  case return_ =>
    unfold am_rt at h
    dsimp only at h
    split at h
    · split at h
      · rename_i hc
        cases h
        exact W.vret hx hb (hr.trans hc) hq hf hd hlocks
      · cases h
    · cases h
  all_goals
    have h : none = some v := h
    cases h
theorem am_call {v : Option Value} {a : Array Value} {rest st0 : List Value} {mc ms : Nat} (hr : va_Run p l e R s m args below meth c H locs cells slots mc ms (F0 m pc lsA st0) rest (am_Qc D b h0 cy v σ' a) (fun q => h0 ≤ q)) (hS : va_S (fun q => h0 ≤ q) s.heap H locs)
    (kk : ∀ (H1 : Heap) (locs1 : List Loc), am_H D b h0 cy σ' H1 → va_S (fun q => h0 ≤ q) s.heap H1 locs1 → W p l e R s m args below meth c H1 locs1 (cells + mc) (slots + ms) Q (F0 m (pc + 3) lsA ((v.map (am_v b h0)).toList ++ rest))) : W p l e R s m args below meth c H locs cells slots Q (F0 m pc lsA st0) := by
  intro T hT Z
  obtain ⟨v', st₀, t, T', L, e0, Z', hL, e1, e2, ⟨hv, hH1, hz, hk⟩, st⟩ := hr T hT Z
  cases hv
  rw [e0] at hz hk
  obtain ⟨t2, a1, b1⟩ := kk T'.heap (locs ++ L) (by rw [e1]; exact hH1) ⟨Nat.le_trans hS.1 (by rw [e1]; exact hz), fun q h1 h2 => by rw [e1, hk q (Nat.lt_of_lt_of_le h1 hS.1) h2]; exact hS.2.1 q h1 h2, fun q hq => by
    rcases List.mem_append.mp hq with z | z
    · exact hS.2.2 q z
    · exact hL q z⟩ T' rfl Z'
  exact ⟨t2, st t2 a1, b1⟩
end AMR
/-- what a running method's frame has -/
def am_F (p : Program) (s : State) (m : MethodId) (args : Array Value) (meth : Method) (c : Code) (R : Room) (j d : Nat) : Prop := p.tables.exec = Jvm.exec ∧ c.code = T_code j ∧ c.maxLocals = T_mxl j ∧ s.vm.findClass (T_R (T_own j)) = some m.cls ∧ (∀ w ∈ am_gw, w.before args s = true) ∧ (T_ini j = 1 → meth.name = "<init>") ∧ d ≤ R.frames ∧ 33 * d ≤ R.locals
def am_Snd (l : Launch) (D : va_G) (b h0 : Nat) (cy : Nat → ClassId) (X : am_X) (n : Nat) : Prop := ∀ (d j pc : Nat) (ls st : List Value) (σ : am_M) (v : Option Value) (σ' : am_M), am_ev X n d j pc ls st σ = some (v, σ') →
  ∀ (p : Program) (e : Env) (R : Room) (s : State) (m : MethodId) (args : Array Value) (below : List Frame) (meth : Method) (c : Code) (H : Heap) (locs : List Loc) (cells slots : Nat) (Q : State → Prop) (lsA : Array Slot), am_F p s m args meth c R j d → am_S D b h0 cy X s → am_H D b h0 cy σ H → va_S (fun q => h0 ≤ q) s.heap H locs → am_L b h0 lsA (T_mxl j) ls →
    cells + (σ'.1.length - σ.1.length) ≤ R.cells → slots + (σ'.2.2.2.2 - σ.2.2.2.2) ≤ R.slots →
    (∀ (pc' : Nat) (i : Instr) (st' : List Value) (lsA' : Array Slot) (H' : Heap) (locs' : List Loc), T_ins j pc' = some (i, 1) → am_rt (T_ret j) i st' = some v → am_H D b h0 cy σ' H' → va_S (fun q => h0 ≤ q) s.heap H' locs' →
      W p l e R s m args below meth c H' locs' (cells + (σ'.1.length - σ.1.length)) (slots + (σ'.2.2.2.2 - σ.2.2.2.2)) Q (F0 m pc' lsA' (st'.map (am_v b h0)))) →
    W p l e R s m args below meth c H locs cells slots Q (F0 m pc lsA (st.map (am_v b h0)))
/-- a whole method -/
theorem am_met {l : Launch} {D : va_G} {b h0 : Nat} {cy : Nat → ClassId} {X : am_X} {n d j : Nat} (IH : am_Snd l D b h0 cy X n) (hj : j < T_m.length) (ho : T_own j ≠ vwCl.length) {as : List Value} {σ σ' : am_M} {v : Option Value} (hfl : (am_fl as).length ≤ T_mxl j) (h : am_ev X n d j 0 (am_en (T_mxl j) as) [] σ = some (v, σ')) :
    Met l (T_y j) (am_ws j) (am_rm d (σ'.1.length - σ.1.length) (σ'.2.2.2.2 - σ.2.2.2.2)) (am_Pc D b h0 cy X as σ) (am_Qc D b h0 cy v σ') (σ'.1.length - σ.1.length) (σ'.2.2.2.2 - σ.2.2.2.2) (fun q => h0 ≤ q) := by
  obtain ⟨hcd, hcl, hmx, hpl, hin, -, -⟩ := am_okM hj ho
  refine Met.ofW (cc := T_code j) (maxL := T_mxl j) (ret := T_ret j) hpl rfl ?_
  intro p e s m args below meth c s₁ B hml hv
  obtain ⟨rfl, hU, hH⟩ := hv
  have hts := atoms_spec (ws := am_ws j) B.pre
  have hown : s.vm.findClass (T_R (T_own j)) = some m.cls := by
    rw [← hcl]
    exact findClass_of_methodNamed B.named
  rw [lg_entry_eq]
  refine IH d j 0 _ [] σ v σ' h p e _ s m _ below meth c s.heap [] 0 0 _ _ ⟨B.exec, B.bytes, hml, hown, fun w hw => hts w (List.mem_cons_of_mem _ hw), fun z => ((name_of_methodNamed B.named B.method).1).trans (hin z), Nat.le_refl _, Nat.le_refl _⟩ hU hH va_S.rf (am_en_L hfl) (by rw [Nat.zero_add]; exact Nat.le_refl _) (by rw [Nat.zero_add]; exact Nat.le_refl _) ?_
  intro pc' i st' lsA' H' locs' hi hr hH' hS'
  rw [Nat.zero_add, Nat.zero_add]
  exact am_ret_ok B.exec B.bytes B.returns B.notSynchronized (am_di hi) hr (fun t ht _ => ⟨rfl, by rw [ht]; exact hH', hS'.F ht⟩) hS'.2.2
theorem am_ca_of {o k : Nat} {i : Instr} {st as r : List Value} {σ : am_M} (h : am_ca o i st σ = some (some (k, as), r)) : ∃ q kd n pp, T_call o q = some (kd, k, n, pp) ∧ n ≤ st.length ∧ (r.map fun v => v.category).sum ≤ 8 ∧ ((i = .invokestatic q ∧ kd ≤ 1 ∧ as = (st.take n).reverse ∧ st = st.take n ++ r) ∨ (i = .invokevirtual q ∧ kd = 2 ∧ ∃ y, σ.1[y]? = some (T_own k, am_nf (T_own k)) ∧ as = .ref y :: (st.take n).reverse ∧ st = st.take n ++ .ref y :: r) ∨ (i = .invokespecial q ∧ (kd = 4 ∨ kd = 5) ∧ ∃ y, y ≠ am_scr ∧ as = .ref y :: (st.take n).reverse ∧ st = st.take n ++ .ref y :: r)) := by
  unfold am_ca at h
  split at h
  · rename_i q
    split at h
    · rename_i kd j n pp hf
      split at h
      · rename_i hc
        cases h
        exact ⟨q, kd, n, pp, hf, hc.2.1, hc.2.2, Or.inl ⟨rfl, hc.1, rfl, (List.take_append_drop n st).symm⟩⟩
      · cases h
    · cases h
  · rename_i q
    split at h
    · rename_i kd j n pp hf
      split at h
      · rename_i y r' hr
        split at h
        · rename_i hc
          cases h
          exact ⟨q, kd, n, pp, hf, hc.2.1, hc.2.2.1, Or.inr (Or.inl ⟨rfl, hc.1, y, hc.2.2.2, rfl, by rw [← hr]; exact (List.take_append_drop n st).symm⟩)⟩
        · cases h
      · cases h
    · cases h
  · rename_i q
    split at h
    · rename_i kd j n pp hf
      split at h
      · rename_i y r' hr
        split at h
        · rename_i hc
          split at h
          · rename_i hk
            cases h
            exact ⟨q, kd, n, pp, hf, hc.1, hc.2.1, Or.inr (Or.inr ⟨rfl, hk, y, hc.2.2, rfl, by rw [← hr]; exact (List.take_append_drop n st).symm⟩)⟩
          · split at h
            · cases h
            · cases h
        · cases h
      · cases h
    · cases h
  · cases h
theorem am_ca_ini {o : Nat} {i : Instr} {st r : List Value} {σ : am_M} (h : am_ca o i st σ = some (none, r)) : ∃ q pp y, T_call o q = some (6, pp) ∧ i = .invokespecial q ∧ st = .ref y :: r ∧ (r.map fun v => v.category).sum ≤ 8 := by
  unfold am_ca at h
  split at h
  · split at h
    · split at h
      · cases h
      · cases h
    · cases h
  · split at h
    · split at h
      · split at h
        · cases h
        · cases h
      · cases h
    · cases h
  · rename_i q
    split at h
    · rename_i kd j n pp hf
      split at h
      · rename_i y r' hr
        split at h
        · rename_i hc
          split at h
          · cases h
          · split at h
            · rename_i hk
              cases h
              obtain ⟨rfl, rfl⟩ := hk
              exact ⟨q, (j, 0, pp), y, hf, rfl, hr, hc.2.1⟩
            · cases h
        · cases h
      · cases h
    · cases h
  · cases h
-- what the table of calls says, by kind
theorem am_okJ0 {o q j n p1 p2 p3 p4 : Nat} (h : T_call o q = some (0, j, n, p1, p2, p3, p4)) : j < T_m.length ∧ T_own j ≠ vwCl.length ∧ (parseMethodDescriptor (T_y j).desc).map (fun d => d.parameters.length) = some n ∧ Cond.methodLink (T_R o) q (T_y j) ∈ am_gw ∧ Cond.static (T_y j) ∈ am_gw ∧ Cond.initialized (T_y j).cls ∈ am_gw := by
  have h1 : (decide (j < T_m.length) && (decide (T_own j ≠ vwCl.length) && (decide ((parseMethodDescriptor (T_y j).desc).map (fun d => d.parameters.length) = some n) && (am_has p1 (.methodLink (T_R o) q (T_y j)) && (am_has p2 (.static (T_y j)) && am_has p3 (.initialized (T_y j).cls)))))) = true := by
    have h2 := am_tab am_tJ h
    unfold am_cJ at h2
    dsimp only at h2
    rw [if_neg (show ¬ (0 : Nat) = 6 by decide), if_neg (show ¬ (0 : Nat) = 7 by decide), if_neg (show ¬ (0 : Nat) = 8 by decide), if_neg (show ¬ (0 : Nat) = 9 by decide), if_pos (show (0 : Nat) = 0 from rfl)] at h2
    exact h2
  rw [Bool.and_eq_true, Bool.and_eq_true, Bool.and_eq_true, Bool.and_eq_true, Bool.and_eq_true] at h1
  obtain ⟨a1, a2, a3, a4, a5, a6⟩ := h1
  exact ⟨of_decide_eq_true a1, of_decide_eq_true a2, of_decide_eq_true a3, am_has_in a4, am_has_in a5, am_has_in a6⟩
theorem am_nest_in {p o k : Nat} {y : MethodName} (h : am_nest p o k y = true) : Cond.methodLinkNest (T_R o) k y "DragonJars" ∈ lw_tbl := List.mem_of_getElem? (of_decide_eq_true h)
theorem am_okJ1 {o q j n p1 p2 p3 p4 : Nat} (h : T_call o q = some (1, j, n, p1, p2, p3, p4)) : j < T_m.length ∧ T_own j ≠ vwCl.length ∧ (parseMethodDescriptor (T_y j).desc).map (fun d => d.parameters.length) = some n ∧ Cond.methodLinkNest (T_R o) q (T_y j) "DragonJars" ∈ lw_tbl ∧ Cond.static (T_y j) ∈ am_gw ∧ Cond.initialized (T_y j).cls ∈ am_gw := by
  have h1 : (decide (j < T_m.length) && (decide (T_own j ≠ vwCl.length) && (decide ((parseMethodDescriptor (T_y j).desc).map (fun d => d.parameters.length) = some n) && (am_nest p1 o q (T_y j) && (am_has p2 (.static (T_y j)) && am_has p3 (.initialized (T_y j).cls)))))) = true := by
    have h2 := am_tab am_tJ h
    unfold am_cJ at h2
    dsimp only at h2
    rw [if_neg (show ¬ (1 : Nat) = 6 by decide), if_neg (show ¬ (1 : Nat) = 7 by decide), if_neg (show ¬ (1 : Nat) = 8 by decide), if_neg (show ¬ (1 : Nat) = 9 by decide), if_neg (show ¬ (1 : Nat) = 0 by decide), if_pos (show (1 : Nat) = 1 from rfl)] at h2
    exact h2
  rw [Bool.and_eq_true, Bool.and_eq_true, Bool.and_eq_true, Bool.and_eq_true, Bool.and_eq_true] at h1
  obtain ⟨a1, a2, a3, a4, a5, a6⟩ := h1
  exact ⟨of_decide_eq_true a1, of_decide_eq_true a2, of_decide_eq_true a3, am_nest_in a4, am_has_in a5, am_has_in a6⟩
theorem am_okJ2 {o q j n p1 p2 p3 p4 : Nat} (h : T_call o q = some (2, j, n, p1, p2, p3, p4)) : j < T_m.length ∧ T_own j ≠ vwCl.length ∧ (parseMethodDescriptor (T_y j).desc).map (fun d => d.parameters.length) = some n ∧ Cond.methodLink (T_R o) q (T_y j) ∈ am_gw ∧ Cond.instanceMethod (T_y j) ∈ am_gw ∧ Cond.selects (T_y j).cls (T_y j) (T_y j) ∈ am_gw ∧ Cond.initialized (T_y j).cls ∈ am_gw ∧ T_own j < vwCl.length := by
  have h1 : (decide (j < T_m.length) && (decide (T_own j ≠ vwCl.length) && (decide ((parseMethodDescriptor (T_y j).desc).map (fun d => d.parameters.length) = some n) && (am_has p1 (.methodLink (T_R o) q (T_y j)) && (am_has p2 (.instanceMethod (T_y j)) && (am_has p3 (.selects (T_y j).cls (T_y j) (T_y j)) && (am_has p4 (.initialized (T_y j).cls) && decide (T_own j < vwCl.length)))))))) = true := by
    have h2 := am_tab am_tJ h
    unfold am_cJ at h2
    dsimp only at h2
    rw [if_neg (show ¬ (2 : Nat) = 6 by decide), if_neg (show ¬ (2 : Nat) = 7 by decide), if_neg (show ¬ (2 : Nat) = 8 by decide), if_neg (show ¬ (2 : Nat) = 9 by decide), if_neg (show ¬ (2 : Nat) = 0 by decide), if_neg (show ¬ (2 : Nat) = 1 by decide), if_pos (show (2 : Nat) = 2 from rfl)] at h2
    exact h2
  rw [Bool.and_eq_true, Bool.and_eq_true, Bool.and_eq_true, Bool.and_eq_true, Bool.and_eq_true, Bool.and_eq_true, Bool.and_eq_true] at h1
  obtain ⟨a1, a2, a3, a4, a5, a6, a7, a8⟩ := h1
  exact ⟨of_decide_eq_true a1, of_decide_eq_true a2, of_decide_eq_true a3, am_has_in a4, am_has_in a5, am_has_in a6, am_has_in a7, of_decide_eq_true a8⟩
theorem am_okJ4 {o q j n p1 p2 p3 p4 : Nat} (h : T_call o q = some (4, j, n, p1, p2, p3, p4)) : j < T_m.length ∧ T_own j ≠ vwCl.length ∧ (parseMethodDescriptor (T_y j).desc).map (fun d => d.parameters.length) = some n ∧ Cond.methodLink (T_R o) q (T_y j) ∈ am_gw ∧ Cond.instanceMethod (T_y j) ∈ am_gw ∧ Cond.initialized (T_y j).cls ∈ am_gw ∧ (T_y j).name = "<init>" ∧ T_ret j = none := by
  have h1 : (decide (j < T_m.length) && (decide (T_own j ≠ vwCl.length) && (decide ((parseMethodDescriptor (T_y j).desc).map (fun d => d.parameters.length) = some n) && (am_has p1 (.methodLink (T_R o) q (T_y j)) && (am_has p2 (.instanceMethod (T_y j)) && (am_has p3 (.initialized (T_y j).cls) && (decide ((T_y j).name = "<init>") && decide (T_ret j = none)))))))) = true := by
    have h2 := am_tab am_tJ h
    unfold am_cJ at h2
    dsimp only at h2
    rw [if_neg (show ¬ (4 : Nat) = 6 by decide), if_neg (show ¬ (4 : Nat) = 7 by decide), if_neg (show ¬ (4 : Nat) = 8 by decide), if_neg (show ¬ (4 : Nat) = 9 by decide), if_neg (show ¬ (4 : Nat) = 0 by decide), if_neg (show ¬ (4 : Nat) = 1 by decide), if_neg (show ¬ (4 : Nat) = 2 by decide), if_pos (show (4 : Nat) = 4 from rfl)] at h2
    exact h2
  rw [Bool.and_eq_true, Bool.and_eq_true, Bool.and_eq_true, Bool.and_eq_true, Bool.and_eq_true, Bool.and_eq_true, Bool.and_eq_true] at h1
  obtain ⟨a1, a2, a3, a4, a5, a6, a7, a8⟩ := h1
  exact ⟨of_decide_eq_true a1, of_decide_eq_true a2, of_decide_eq_true a3, am_has_in a4, am_has_in a5, am_has_in a6, of_decide_eq_true a7, of_decide_eq_true a8⟩
theorem am_okJ5 {o q j n p1 p2 p3 p4 : Nat} (h : T_call o q = some (5, j, n, p1, p2, p3, p4)) : j < T_m.length ∧ T_own j ≠ vwCl.length ∧ (parseMethodDescriptor (T_y j).desc).map (fun d => d.parameters.length) = some n ∧ Cond.methodLinkNest (T_R o) q (T_y j) "DragonJars" ∈ lw_tbl ∧ Cond.instanceMethod (T_y j) ∈ am_gw ∧ Cond.initialized (T_y j).cls ∈ am_gw ∧ (T_y j).name = "<init>" ∧ T_ret j = none := by
  have h1 : (decide (j < T_m.length) && (decide (T_own j ≠ vwCl.length) && (decide ((parseMethodDescriptor (T_y j).desc).map (fun d => d.parameters.length) = some n) && (am_nest p1 o q (T_y j) && (am_has p2 (.instanceMethod (T_y j)) && (am_has p3 (.initialized (T_y j).cls) && (decide ((T_y j).name = "<init>") && decide (T_ret j = none)))))))) = true := by
    have h2 := am_tab am_tJ h
    unfold am_cJ at h2
    dsimp only at h2
    rw [if_neg (show ¬ (5 : Nat) = 6 by decide), if_neg (show ¬ (5 : Nat) = 7 by decide), if_neg (show ¬ (5 : Nat) = 8 by decide), if_neg (show ¬ (5 : Nat) = 9 by decide), if_neg (show ¬ (5 : Nat) = 0 by decide), if_neg (show ¬ (5 : Nat) = 1 by decide), if_neg (show ¬ (5 : Nat) = 2 by decide), if_neg (show ¬ (5 : Nat) = 4 by decide), if_pos (show (5 : Nat) = 5 from rfl)] at h2
    exact h2
  rw [Bool.and_eq_true, Bool.and_eq_true, Bool.and_eq_true, Bool.and_eq_true, Bool.and_eq_true, Bool.and_eq_true, Bool.and_eq_true] at h1
  obtain ⟨a1, a2, a3, a4, a5, a6, a7, a8⟩ := h1
  exact ⟨of_decide_eq_true a1, of_decide_eq_true a2, of_decide_eq_true a3, am_nest_in a4, am_has_in a5, am_has_in a6, of_decide_eq_true a7, of_decide_eq_true a8⟩
theorem am_okJ6 {o q j n p1 p2 p3 p4 : Nat} (h : T_call o q = some (6, j, n, p1, p2, p3, p4)) : Cond.methodLink (T_R o) q objectInit ∈ am_gw ∧ Cond.instanceMethod objectInit ∈ am_gw ∧ Cond.code objectInit ⟨#[0xb1]⟩ 1 none ∈ am_gw := by
  have h1 : (am_has p1 (.methodLink (T_R o) q objectInit) && (am_has p2 (.instanceMethod objectInit) && am_has p3 (.code objectInit ⟨#[0xb1]⟩ 1 none))) = true := am_tab am_tJ h
  rw [Bool.and_eq_true, Bool.and_eq_true] at h1
  exact ⟨am_has_in h1.1, am_has_in h1.2.1, am_has_in h1.2.2⟩
theorem am_okJ7 {o q j n p1 p2 p3 p4 : Nat} (h : T_call o q = some (7, j, n, p1, p2, p3, p4)) : Cond.methodLink (T_R o) q Lib.Math.max.name ∈ am_gw ∧ Cond.static Lib.Math.max.name ∈ am_gw ∧ Cond.initialized "java/lang/Math" ∈ am_gw ∧ Cond.code Lib.Math.max.name Lib.Math.max.code 2 (some .int) ∈ am_gw := by
  have h1 : (am_has p1 (.methodLink (T_R o) q Lib.Math.max.name) && (am_has p2 (.static Lib.Math.max.name) && (am_has p3 (.initialized "java/lang/Math") && am_has p4 (.code Lib.Math.max.name Lib.Math.max.code 2 (some .int))))) = true := am_tab am_tJ h
  rw [Bool.and_eq_true, Bool.and_eq_true, Bool.and_eq_true] at h1
  exact ⟨am_has_in h1.1, am_has_in h1.2.1, am_has_in h1.2.2.1, am_has_in h1.2.2.2⟩
theorem am_okJ8 {o q j n p1 p2 p3 p4 : Nat} (h : T_call o q = some (8, j, n, p1, p2, p3, p4)) : Cond.methodLink (T_R o) q Lib.Math.min.name ∈ am_gw ∧ Cond.static Lib.Math.min.name ∈ am_gw ∧ Cond.initialized "java/lang/Math" ∈ am_gw ∧ Cond.code Lib.Math.min.name Lib.Math.min.code 2 (some .int) ∈ am_gw := by
  have h1 : (am_has p1 (.methodLink (T_R o) q Lib.Math.min.name) && (am_has p2 (.static Lib.Math.min.name) && (am_has p3 (.initialized "java/lang/Math") && am_has p4 (.code Lib.Math.min.name Lib.Math.min.code 2 (some .int))))) = true := am_tab am_tJ h
  rw [Bool.and_eq_true, Bool.and_eq_true, Bool.and_eq_true] at h1
  exact ⟨am_has_in h1.1, am_has_in h1.2.1, am_has_in h1.2.2.1, am_has_in h1.2.2.2⟩
theorem am_okJ9 {o q j n p1 p2 p3 p4 : Nat} (h : T_call o q = some (9, j, n, p1, p2, p3, p4)) : Cond.methodLink (T_R o) q Lib.Math.abs.name ∈ am_gw ∧ Cond.static Lib.Math.abs.name ∈ am_gw ∧ Cond.initialized "java/lang/Math" ∈ am_gw ∧ Cond.code Lib.Math.abs.name Lib.Math.abs.code 1 (some .int) ∈ am_gw := by
  have h1 : (am_has p1 (.methodLink (T_R o) q Lib.Math.abs.name) && (am_has p2 (.static Lib.Math.abs.name) && (am_has p3 (.initialized "java/lang/Math") && am_has p4 (.code Lib.Math.abs.name Lib.Math.abs.code 1 (some .int))))) = true := am_tab am_tJ h
  rw [Bool.and_eq_true, Bool.and_eq_true, Bool.and_eq_true] at h1
  exact ⟨am_has_in h1.1, am_has_in h1.2.1, am_has_in h1.2.2.1, am_has_in h1.2.2.2⟩
/-- Math.max, min, abs: what the machine answers -/
theorem am_ma_of {o : Nat} {i : Instr} {st st' : List Value} (h : am_ma o i st = some st') : ∃ q kd pp r, T_call o q = some (kd, pp) ∧ i = .invokestatic q ∧ (r.map fun v => v.category).sum ≤ 8 ∧ ((kd = 7 ∧ ∃ x y : Int32, st = .int y :: .int x :: r ∧ st' = .int (if x < y then y else x) :: r) ∨ (kd = 8 ∧ ∃ x y : Int32, st = .int y :: .int x :: r ∧ st' = .int (if y < x then y else x) :: r) ∨ (kd = 9 ∧ ∃ x : Int32, st = .int x :: r ∧ st' = .int (if 0 ≤ x then x else 0 - x) :: r)) := by
  unfold am_ma at h
  split at h
  · rename_i q
    split at h
    · rename_i kd pp hf
      split at h
      · rename_i hk
        split at h
        · rename_i y x r
          split at h
          · rename_i hr
            cases h
            exact ⟨q, kd, pp, r, hf, rfl, hr, Or.inl ⟨hk, x, y, rfl, rfl⟩⟩
          · cases h
        · cases h
      · split at h
        · rename_i hk
          split at h
          · rename_i y x r
            split at h
            · rename_i hr
              cases h
              exact ⟨q, kd, pp, r, hf, rfl, hr, Or.inr (Or.inl ⟨hk, x, y, rfl, rfl⟩)⟩
            · cases h
          · cases h
        · split at h
          · rename_i hk
            split at h
            · rename_i x r
              split at h
              · rename_i hr
                cases h
                exact ⟨q, kd, pp, r, hf, rfl, hr, Or.inr (Or.inr ⟨hk, x, rfl, rfl⟩)⟩
              · cases h
            · cases h
          · cases h
    · cases h
  · cases h
