/-! WHAT THE ABSTRACT MACHINE ANSWERS, THE MACHINE ANSWERS -/
-- words
def am_gw : List Cond := lw_tbl.filter goodWord
theorem am_gw_in {p : Nat} {w : Cond} (h : lw_tbl[p]? = some w) (hg : goodWord w = true) : w ∈ am_gw := List.mem_filter.mpr ⟨List.mem_of_getElem? h, hg⟩
theorem am_gw_good {w : Cond} (h : w ∈ am_gw) : (w.onTables && w.keeps) = true ∨ ∃ ty, w = .arrayClass ty := good_of_word (List.mem_filter.mp h).2
def am_has (p : Nat) (w : Cond) : Bool := decide (lw_tbl[p]? = some w) && goodWord w
theorem am_has_in {p : Nat} {w : Cond} (h : am_has p w = true) : w ∈ am_gw := by
  unfold am_has at h
  rw [Bool.and_eq_true] at h
  exact am_gw_in (of_decide_eq_true h.1) h.2
theorem am_lk {α : Type} {l : List (Nat × α)} {k : Nat} {v : α} (h : l.lookup k = some v) : (k, v) ∈ l := by
  induction l with
  | nil => simp [List.lookup] at h
  | cons a l ih =>
    obtain ⟨x, y⟩ := a
    unfold List.lookup at h
    cases hk : (k == x) with
    | true =>
      rw [hk] at h
      have e1 : k = x := by simpa using hk
      have e2 : y = v := by simpa using h
      rw [e1, e2]
      exact List.mem_cons_self
    | false =>
      rw [hk] at h
      exact List.mem_cons_of_mem _ (ih h)
theorem am_tab {α : Type} {L : List (List (Nat × α))} {chk : Nat → Nat × α → Bool} (h : (List.range L.length).all (fun o => (L.getD o []).all (chk o)) = true) {o k : Nat} {v : α} (hk : (L.getD o []).lookup k = some v) : chk o (k, v) = true := by
  have hm := am_lk hk
  have ho : o < L.length := by
    rcases Nat.lt_or_ge o L.length with q | q
    · exact q
    · rw [List.getD_eq_getElem?_getD, List.getElem?_eq_none q] at hm
      cases hm
  exact List.all_eq_true.mp (List.all_eq_true.mp h o (List.mem_range.mpr ho)) _ hm
-- instructions
theorem am_di {j pc len : Nat} {i : Instr} (h : T_ins j pc = some (i, len)) : decode (T_code j) pc = .ok (i, len) := by
  have h1 := am_tab (L := T_insL) (chk := am_fR) am_tI h
  exact of_decide_eq_true h1
-- fields
def am_cF (o : Nat) (q : Nat × Nat × Nat × Nat) : Bool := decide (q.2.1 < vwCl.length) && (decide (q.2.2.1 < am_nf q.2.1) && am_has q.2.2.2 (.fieldLink (T_R o) q.1 ((am_C q.2.1).2.1 q.2.2.1).1 ((am_C q.2.1).2.1 q.2.2.1).2.1 ((am_C q.2.1).2.1 q.2.2.1).2.2.1))
theorem am_tF : (List.range T_fldL.length).all (fun o => (T_fldL.getD o []).all (am_cF o)) = true := by decide +kernel
theorem am_okF {o k ci f p : Nat} (h : T_fld o k = some (ci, f, p)) : ci < vwCl.length ∧ f < am_nf ci ∧ Cond.fieldLink (T_R o) k ((am_C ci).2.1 f).1 ((am_C ci).2.1 f).2.1 ((am_C ci).2.1 f).2.2.1 ∈ am_gw := by
  have h1 := am_tab am_tF h
  unfold am_cF at h1
  rw [Bool.and_eq_true, Bool.and_eq_true] at h1
  exact ⟨of_decide_eq_true h1.1, of_decide_eq_true h1.2.1, am_has_in h1.2.2⟩
-- constants
def am_cK (o : Nat) (q : Nat × Int32 × Nat) : Bool := am_has q.2.2 (.constant (T_R o) q.1 q.2.1)
theorem am_tK : (List.range T_cstL.length).all (fun o => (T_cstL.getD o []).all (am_cK o)) = true := by decide +kernel
theorem am_okK {o k p : Nat} {v : Int32} (h : T_cst o k = some (v, p)) : Cond.constant (T_R o) k v ∈ am_gw := am_has_in (am_tab am_tK h)
def am_cKl (o : Nat) (q : Nat × Int64 × Nat) : Bool := am_has q.2.2 (.constantLong (T_R o) q.1 q.2.1)
theorem am_tKl : (List.range T_cslL.length).all (fun o => (T_cslL.getD o []).all (am_cKl o)) = true := by decide +kernel
theorem am_okKl {o k p : Nat} {v : Int64} (h : T_csl o k = some (v, p)) : Cond.constantLong (T_R o) k v ∈ am_gw := am_has_in (am_tab am_tKl h)
-- classes
def am_cC (c : Nat) : Bool := am_has (T_cl.getD c (0, 0)).1 (.instantiable (am_C c).1 (am_nf c)) && (am_has (T_cl.getD c (0, 0)).2 (.initialized (am_C c).1) && ((List.range (am_nf c)).all (fun k => am_has ((T_layL.getD c []).getD k 0) (u_lay (am_C c).1 (am_C c).2.1 k)) && (List.range (am_nf c)).all (fun k => decide (parseFieldDescriptor ((am_C c).2.1 k).2.2.1 = some (am_ty c k)))))
theorem am_tC : (List.range vwCl.length).all am_cC = true := by decide +kernel
theorem am_okC {c : Nat} (h : c < vwCl.length) : Cond.instantiable (am_C c).1 (am_nf c) ∈ am_gw ∧ Cond.initialized (am_C c).1 ∈ am_gw ∧ (∀ w ∈ u_ws (am_C c).1 (am_C c).2.1 (am_nf c), w ∈ am_gw) ∧ ∀ k, k < am_nf c → parseFieldDescriptor ((am_C c).2.1 k).2.2.1 = some (am_ty c k) := by
  have h1 := List.all_eq_true.mp am_tC c (List.mem_range.mpr h)
  unfold am_cC at h1
  rw [Bool.and_eq_true, Bool.and_eq_true, Bool.and_eq_true] at h1
  obtain ⟨a, b, d, e⟩ := h1
  refine ⟨am_has_in a, am_has_in b, fun w hw => ?_, fun k hk => of_decide_eq_true (List.all_eq_true.mp e k (List.mem_range.mpr hk))⟩
  obtain ⟨k, hk, rfl⟩ := List.mem_map.mp hw
  exact am_has_in (List.all_eq_true.mp d k hk)
theorem am_getC {c : Nat} (h : c < vwCl.length) : vwCl[c]? = some ((am_C c).1, (am_C c).2.1, am_nf c) := by
  show vwCl[c]? = some (am_C c)
  unfold am_C
  rw [List.getD_eq_getElem?_getD, List.getElem?_eq_getElem h]
  rfl
-- what is made
def am_cN (o : Nat) (q : Nat × Nat × Nat) : Bool := decide (q.2.1 < vwCl.length) && am_has q.2.2 (.classLink (T_R o) q.1 (am_C q.2.1).1)
theorem am_tN : (List.range T_newL.length).all (fun o => (T_newL.getD o []).all (am_cN o)) = true := by decide +kernel
theorem am_okN {o k c p : Nat} (h : T_new o k = some (c, p)) : c < vwCl.length ∧ Cond.classLink (T_R o) k (am_C c).1 ∈ am_gw := by
  have h1 := am_tab am_tN h
  unfold am_cN at h1
  rw [Bool.and_eq_true] at h1
  exact ⟨of_decide_eq_true h1.1, am_has_in h1.2⟩
def am_acl (t : Nat) : Nat := (T_arr.getD t (0, 0)).1
def am_cA (o : Nat) (q : Nat × Nat × Nat) : Bool := decide (q.2.1 < T_arr.length) && am_has q.2.2 (.classLink (T_R o) q.1 (am_C (am_acl q.2.1)).1)
theorem am_tA : (List.range T_anwL.length).all (fun o => (T_anwL.getD o []).all (am_cA o)) = true := by decide +kernel
theorem am_okA {o k t p : Nat} (h : T_anw o k = some (t, p)) : t < T_arr.length ∧ Cond.classLink (T_R o) k (am_C (am_acl t)).1 ∈ am_gw := by
  have h1 := am_tab am_tA h
  unfold am_cA at h1
  rw [Bool.and_eq_true] at h1
  exact ⟨of_decide_eq_true h1.1, am_has_in h1.2⟩
theorem am_tAc : (List.range T_arr.length).all (fun t => decide (am_acl t < vwCl.length)) = true := by decide +kernel
theorem am_acl_lt {t : Nat} (h : t < T_arr.length) : am_acl t < vwCl.length := of_decide_eq_true (List.all_eq_true.mp am_tAc t (List.mem_range.mpr h))
theorem am_tO : (List.range T_arr.length).all (fun t => decide (lw_tbl[(T_arr.getD t (0, 0)).2]? = some (.arrayOver (.object (am_C (am_acl t)).1)))) = true := by decide +kernel
theorem am_pI : Cond.arrayClass .int ∈ am_gw := am_has_in (p := T_pI) (by decide +kernel)
theorem am_pZ : Cond.arrayClass .boolean ∈ am_gw := am_has_in (p := T_pZ) (by decide +kernel)
-- methods
def am_lb (a : List UInt8) : List UInt8 → Bool := match a with
  | [] => fun b => match b with
    | [] => true
    | _ :: _ => false
  | x :: xs => fun b => match b with
    | [] => false
    | y :: ys => Nat.beq x.toNat y.toNat && am_lb xs ys
theorem am_lb_eq : ∀ (a b : List UInt8), am_lb a b = true → a = b := by
  intro a
  induction a with
  | nil => intro b h; cases b with
    | nil => rfl
    | cons y ys => cases h
  | cons x xs ih => intro b h; cases b with
    | nil => cases h
    | cons y ys =>
      have h : (Nat.beq x.toNat y.toNat && am_lb xs ys) = true := h
      rw [Bool.and_eq_true] at h
      rw [ih ys h.2, UInt8.toNat_inj.mp (Nat.eq_of_beq_eq_true h.1)]
theorem am_bytes {a b : ByteArray} (h : am_lb a.data.toList b.data.toList = true) : a = b := by
  have h1 := am_lb_eq _ _ h
  cases a with | mk a => cases b with | mk b =>
  exact congrArg ByteArray.mk (Array.toList_inj.mp h1)
/-- is the word at p the code so? (am_has for a method's bytes) -/
def am_hc (p : Nat) (y : MethodName) (c : ByteArray) (n : Nat) (r : Option FieldType) : Bool := (match lw_tbl[p]? with
  | some (.code y1 c1 n1 r1) => decide (y1 = y) && (am_lb c1.data.toList c.data.toList && (decide (n1 = n) && decide (r1 = r)))
  | _ => false) && goodWord (.code y c n r)
theorem am_hc_in {p n : Nat} {y : MethodName} {c : ByteArray} {r : Option FieldType} (h : am_hc p y c n r = true) : Cond.code y c n r ∈ am_gw := by
  unfold am_hc at h
  rw [Bool.and_eq_true] at h
  refine am_gw_in (p := p) ?_ h.2
  have h1 := h.1
  split at h1
  · rename_i y1 c1 n1 r1 e
    rw [Bool.and_eq_true, Bool.and_eq_true, Bool.and_eq_true] at h1
    rw [e, of_decide_eq_true h1.1, am_bytes h1.2.1, of_decide_eq_true h1.2.2.1, of_decide_eq_true h1.2.2.2]
  · cases h1
def am_cM (r : Nat × ByteArray × MethodName × Nat × Option FieldType × Nat × Nat × Nat) : Bool := decide (r.1 = vwCl.length) || (am_hc r.2.2.2.2.2.2.1 r.2.2.1 r.2.1 r.2.2.2.1 r.2.2.2.2.1 && (decide (r.2.2.1.cls = T_R r.1) && (decide (r.2.2.2.1 ≤ 14) && (plainName r.2.2.1.cls && (decide (r.2.2.2.2.2.2.2 = 1 → r.2.2.1.name = "<init>") && (decide (r.1 < vwCl.length → T_R r.1 = (am_C r.1).1) && (decide (r.2.2.1.cls ≠ "java/lang/invoke/MethodHandle" ∧ r.2.2.1.cls ≠ "java/lang/invoke/VarHandle"))))))))
-- calls
def am_nest (p o k : Nat) (y : MethodName) : Bool := decide (lw_tbl[p]? = some (.methodLinkNest (T_R o) k y "DragonJars"))
def am_cJ (o : Nat) (q : Nat × Nat × Nat × Nat × Nat × Nat × Nat × Nat) : Bool := match q with
  | (k, kd, j, n, p1, p2, p3, p4) => if kd = 6 then am_has p1 (.methodLink (T_R o) k objectInit) && (am_has p2 (.instanceMethod objectInit) && am_has p3 (.code objectInit ⟨#[0xb1]⟩ 1 none)) else
    if kd = 7 then am_has p1 (.methodLink (T_R o) k Lib.Math.max.name) && (am_has p2 (.static Lib.Math.max.name) && (am_has p3 (.initialized "java/lang/Math") && am_has p4 (.code Lib.Math.max.name Lib.Math.max.code 2 (some .int)))) else
    if kd = 8 then am_has p1 (.methodLink (T_R o) k Lib.Math.min.name) && (am_has p2 (.static Lib.Math.min.name) && (am_has p3 (.initialized "java/lang/Math") && am_has p4 (.code Lib.Math.min.name Lib.Math.min.code 2 (some .int)))) else
    if kd = 9 then am_has p1 (.methodLink (T_R o) k Lib.Math.abs.name) && (am_has p2 (.static Lib.Math.abs.name) && (am_has p3 (.initialized "java/lang/Math") && am_has p4 (.code Lib.Math.abs.name Lib.Math.abs.code 1 (some .int)))) else
    decide (j < T_m.length) && (decide (T_own j ≠ vwCl.length) && (decide ((parseMethodDescriptor (T_y j).desc).map (fun d => d.parameters.length) = some n) &&
      (if kd = 0 then am_has p1 (.methodLink (T_R o) k (T_y j)) && (am_has p2 (.static (T_y j)) && am_has p3 (.initialized (T_y j).cls))
       else if kd = 1 then am_nest p1 o k (T_y j) && (am_has p2 (.static (T_y j)) && am_has p3 (.initialized (T_y j).cls))
       else if kd = 2 then am_has p1 (.methodLink (T_R o) k (T_y j)) && (am_has p2 (.instanceMethod (T_y j)) && (am_has p3 (.selects (T_y j).cls (T_y j) (T_y j)) && (am_has p4 (.initialized (T_y j).cls) && decide (T_own j < vwCl.length))))
       else if kd = 4 then am_has p1 (.methodLink (T_R o) k (T_y j)) && (am_has p2 (.instanceMethod (T_y j)) && (am_has p3 (.initialized (T_y j).cls) && (decide ((T_y j).name = "<init>") && decide (T_ret j = none))))
       else if kd = 5 then am_nest p1 o k (T_y j) && (am_has p2 (.instanceMethod (T_y j)) && (am_has p3 (.initialized (T_y j).cls) && (decide ((T_y j).name = "<init>") && decide (T_ret j = none))))
       else false)))
