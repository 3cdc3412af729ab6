/-! MAKING -/
def am_tok (ty : FieldType) : Bool := match ty with
  | .int => true
  | .boolean => true
  | .long => true
  | .object _ => true
  | .array _ => true
  | _ => false
theorem am_tT : (List.range vwCl.length).all (fun c => (List.range (am_nf c)).all (fun k => am_tok (am_ty c k))) = true := by decide +kernel
theorem am_up_self {α : Type} {f : Nat → α} {a : Nat} {v : α} : va_up f a v a = v := by
  unfold va_up
  rw [if_pos rfl]
theorem am_up_other {α : Type} {f : Nat → α} {a x : Nat} {v : α} (h : x ≠ a) : va_up f a v x = f x := by
  unfold va_up
  rw [if_neg h]
theorem am_row_no (c n k : Nat) : (am_row c n).getD k none = none := by
  unfold am_row
  split
  · rfl
  · rw [List.getD_eq_getElem?_getD, List.getElem?_replicate]
    split <;> rfl
theorem am_pg_new {P : List (List (Option Nat))} {c n m k : Nat} (h : P.length = m) : am_pg (P ++ [am_row c n]) m k = none := by
  subst h
  unfold am_pg
  rw [List.getD_eq_getElem?_getD (l := _ ++ _), List.getElem?_append_right (Nat.le_refl _), Nat.sub_self]
  exact am_row_no c n k
theorem am_pg_old {P : List (List (Option Nat))} {c n x : Nat} (h : x < P.length) : am_pg (P ++ [am_row c n]) x = am_pg P x := by
  funext k
  unfold am_pg
  rw [List.getD_eq_getElem?_getD (l := _ ++ _), List.getElem?_append_left h, ← List.getD_eq_getElem?_getD]
theorem am_dflt {b h0 : Nat} {σ : am_M} {c n k : Nat} {ty : FieldType} (hp : σ.2.2.2.1.length = σ.1.length) (h : am_tok ty = true) : am_fv b h0 (am_mk σ c n) σ.1.length k ty = defaultValue ty := by
  have h1 : am_pg (am_mk σ c n).2.2.2.1 σ.1.length k = none := am_pg_new hp
  have h2 : (am_mk σ c n).2.1 σ.1.length k = 0 := congrFun am_up_self k
  have h3 : (am_mk σ c n).2.2.1 σ.1.length k = 0 := congrFun am_up_self k
  cases ty <;> simp [am_tok] at h <;> simp [am_fv, am_fa, h1, h2, h3, am_v, va_rf, defaultValue]
theorem am_mk_get {σ : am_M} {c n : Nat} : (am_mk σ c n).1[σ.1.length]? = some (c, n) := by
  show (σ.1 ++ [(c, n)])[σ.1.length]? = _
  rw [List.getElem?_append_right (Nat.le_refl _), Nat.sub_self]
  rfl
theorem am_mk_len {σ : am_M} {c n : Nat} : (am_mk σ c n).1.length = σ.1.length + 1 := by
  show (σ.1 ++ [(c, n)]).length = _
  rw [List.length_append]
  rfl
theorem am_W_mk {b h0 : Nat} {cy : Nat → ClassId} {σ : am_M} {c n : Nat} (hp : σ.2.2.2.1.length = σ.1.length) : am_W b h0 cy (am_mk σ c n) = am_W b h0 cy σ ++ [(h0 + σ.1.length, am_e b h0 cy (am_mk σ c n) σ.1.length)] := by
  refine List.ext_getElem? fun x => ?_
  by_cases hl : x < σ.1.length
  · rw [am_W_get (by rw [am_mk_len]; omega), List.getElem?_append_left (by rw [am_W_len]; exact hl), am_W_get hl]
    rw [am_e_eq (σ := σ) (σ' := am_mk σ c n) (x := x) (List.getElem?_append_left hl) (am_up_other (by omega)) (am_up_other (by omega)) (am_pg_old (by omega))]
  · by_cases he : x = σ.1.length
    · subst he
      rw [am_W_get (by rw [am_mk_len]; omega), List.getElem?_append_right (by rw [am_W_len]; exact Nat.le_refl _), am_W_len, Nat.sub_self]
      rfl
    · rw [List.getElem?_eq_none (by rw [am_W_len, am_mk_len]; omega), List.getElem?_eq_none (by rw [List.length_append, am_W_len]; show σ.1.length + 1 ≤ x; omega)]
theorem am_H_mk {D : va_G} {b h0 : Nat} {cy : Nat → ClassId} {σ : am_M} {c n : Nat} {H H1 : Heap} (hH : am_H D b h0 cy σ H) (hl : σ.1.length < am_scr) (hp : σ.2.2.2.1.length = σ.1.length) (z1 : H1.size = H.size + 1) (o1 : ∀ q : Nat, q < H.size → H1[q]? = H[q]?) (ha : va_at D vwCl (h0 + σ.1.length, am_e b h0 cy (am_mk σ c n) σ.1.length) H1) : am_H D b h0 cy (am_mk σ c n) H1 := by
  obtain ⟨hP, hz, hsz⟩ := hH
  refine ⟨?_, by rw [z1, hz, am_mk_len]; omega, by rw [am_mk_len]; omega⟩
  rw [am_W_mk hp]
  refine (hP.kept fun k x hx => o1 x.1 ((hP k x hx).lt)).app (fun k x hx => ?_)
  have hk : k < 1 := (List.getElem?_eq_some_iff.mp hx).1
  rw [show k = 0 by omega] at hx
  cases hx
  exact ha
theorem am_S_grow {A : Nat → Prop} {H0 H H1 : Heap} {locs : List Loc} (hS : va_S A H0 H locs) (z1 : H1.size = H.size + 1) (o1 : ∀ q : Nat, q < H.size → H1[q]? = H[q]?) : va_S A H0 H1 locs := ⟨Nat.le_trans hS.1 (by omega), fun x h1 h2 => (o1 x (Nat.lt_of_lt_of_le h1 hS.1)).trans (hS.2.1 x h1 h2), hS.2.2⟩
section AMA
variable {p : Program} {l : Launch} {e : Env} {R : Room} {s : State} {m : MethodId} {args : Array Value} {below : List Frame} {meth : Method} {c : Code} {H : Heap} {locs : List Loc} {cells slots : Nat} {Q : State → Prop}
variable {cc : ByteArray} {pc : Nat} {lsA : Array Slot} {b h0 : Nat} {D : va_G} {cy : Nat → ClassId} {X : am_X} {σ σ' : am_M}
set_option maxHeartbeats 4000000 in
theorem am_al_ok (hx : p.tables.exec = Jvm.exec) (hb : c.code = cc) {o : Nat} (hown : s.vm.findClass (T_R o) = some m.cls) (hts : ∀ w ∈ am_gw, w.before args s = true) (hU : am_S D b h0 cy X s) (hH : am_H D b h0 cy σ H) (hS : va_S (fun q => h0 ≤ q) s.heap H locs) {i : Instr} {n : Nat} {st st' : List Value} (hd : decode cc pc = .ok (i, n)) (h : am_al o i st σ = some (n, st', σ'))
    (hc : cells + (σ'.1.length - σ.1.length) ≤ R.cells) (hs : slots + (σ'.2.2.2.2 - σ.2.2.2.2) ≤ R.slots)
    (k : ∀ (H1 : Heap), am_H D b h0 cy σ' H1 → va_S (fun q => h0 ≤ q) s.heap H1 locs → W p l e R s m args below meth c H1 locs (cells + (σ'.1.length - σ.1.length)) (slots + (σ'.2.2.2.2 - σ.2.2.2.2)) Q (F0 m (pc + n) lsA (st'.map (am_v b h0)))) : W p l e R s m args below meth c H locs cells slots Q (F0 m pc lsA (st.map (am_v b h0))) := by
  have hA : ∀ {c n : Nat}, (am_mk σ c n).1.length - σ.1.length = 1 := by intro c n; rw [am_mk_len]; omega
  have hB : ∀ {c n : Nat}, (am_mk σ c n).2.2.2.2 - σ.2.2.2.2 = n := by intro c n; show σ.2.2.2.2 + n - σ.2.2.2.2 = n; omega
  obtain ⟨hP, hz, hsz⟩ := id hH
  cases i
  case new q =>
    unfold am_al at h
    dsimp only at h
    split at h
    · rename_i ci pp hf
      split at h
      · rename_i hl
        cases h
        rw [hA] at hc k
        rw [hB] at hs k
        obtain ⟨hci, hlk⟩ := am_okN hf
        obtain ⟨hi1, hi2, hin, hty⟩ := am_okC hci
        have hKn := hU.1.1 ci _ (am_getC hci)
        refine W.newcK hx hb hown (hts _ hlk) (hts _ hi1) (hts _ hi2) rfl hd hc hs hKn.2.1 hz fun H1 kC hkC e1 z1 o1 => ?_
        rw [← hz] at z1 o1
        have k := k H1 (am_H_mk hH hl.1 hl.2 z1 o1 ?_) (am_S_grow hS z1 o1)
        · have k : W p l e R s m args below meth c H1 locs (cells + 1) (slots + am_nf ci) Q (F0 m (pc + 3) lsA (Value.ref (am_ad b h0 σ.1.length) :: st.map (am_v b h0))) := k
          rw [am_ad_lt (n := am_scr) hl.1 (Nat.le_refl _)] at k
          exact k
        · rw [am_e_obj am_mk_get (am_c50 hci)]
          refine ⟨_, am_getC hci, (u_born (am_ty ci) hts hin hKn hkC e1 hty).to fun j hj => ?_⟩
          have ht : am_tok (am_ty ci j) = true := List.all_eq_true.mp (List.all_eq_true.mp am_tT ci (List.mem_range.mpr hci)) j (List.mem_range.mpr hj)
          unfold vp_V
          rw [List.getD_eq_getElem?_getD, List.getElem?_map, List.getElem?_range hj]
          exact (am_dflt hl.2 ht).symm
      · cases h
    · cases h
  case newarray t =>
    unfold am_al at h
    dsimp only at h
    split at h
    · rename_i x r
      split at h
      · rename_i hl
        split at h
        · cases h
          rw [hA] at hc k
          rw [hB] at hs k
          refine va_newaK hx hb (atype := .int) (hts _ am_pI) rfl hd rfl hl.2.1 rfl (by show _ * 4 ≤ _; omega) hc hs hz fun H1 cA e1 z1 o1 hAr hNm => ?_
          rw [← hz] at z1 o1
          have hcA : cA = cy 0 := by
            have h9 : s.vm.findClass ("[" ++ FieldType.int.toString) = some (cy 0) := (hU.1.2 0 _ (am_tys_get (by omega))).2
            exact Option.some.inj (hNm.symm.trans h9)
          have k := k H1 (am_H_mk hH hl.1.1 hl.1.2 z1 o1 ?_) (am_S_grow hS z1 o1)
          · have k : W p l e R s m args below meth c H1 locs (cells + 1) (slots + x.toNatClampNeg) Q (F0 m (pc + 2) lsA (Value.ref (am_ad b h0 σ.1.length) :: r.map (am_v b h0))) := k
            rw [am_ad_lt (n := am_scr) hl.1.1 (Nat.le_refl _)] at k
            exact k
          · rw [am_e_int am_mk_get (by omega) (by omega)]
            show H1[h0 + σ.1.length]? = some (vp_cell _ _)
            rw [e1, vp_cell_i, hcA]
            congr 2
            funext q
            show _ = Value.int (va_up σ.2.1 σ.1.length (fun _ => 0) σ.1.length q)
            rw [am_up_self]
            rfl
        · cases h
          rw [hA] at hc k
          rw [hB] at hs k
          refine va_newaK hx hb (atype := .boolean) (hts _ am_pZ) rfl hd rfl hl.2.1 rfl (by show _ * 1 ≤ _; omega) hc hs hz fun H1 cA e1 z1 o1 hAr hNm => ?_
          rw [← hz] at z1 o1
          have hcA : cA = cy 1 := by
            have h9 : s.vm.findClass ("[" ++ FieldType.boolean.toString) = some (cy 1) := (hU.1.2 1 _ (am_tys_get (by omega))).2
            exact Option.some.inj (hNm.symm.trans h9)
          have k := k H1 (am_H_mk hH hl.1.1 hl.1.2 z1 o1 ?_) (am_S_grow hS z1 o1)
          · have k : W p l e R s m args below meth c H1 locs (cells + 1) (slots + x.toNatClampNeg) Q (F0 m (pc + 2) lsA (Value.ref (am_ad b h0 σ.1.length) :: r.map (am_v b h0))) := k
            rw [am_ad_lt (n := am_scr) hl.1.1 (Nat.le_refl _)] at k
            exact k
          · rw [am_e_int am_mk_get (by omega) (by omega)]
            show H1[h0 + σ.1.length]? = some (vp_cell _ _)
            rw [e1, vp_cell_i, hcA]
            congr 2
            funext q
            show _ = Value.int (va_up σ.2.1 σ.1.length (fun _ => 0) σ.1.length q)
            rw [am_up_self]
            rfl
        · cases h
      · cases h
    · cases h
  case anewarray q =>
    unfold am_al at h
    dsimp only at h
    split at h
    · rename_i t pp hf
      split at h
      · rename_i x r
        split at h
        · rename_i hl
          cases h
          rw [hA] at hc k
          rw [hB] at hs k
          obtain ⟨htl, hlk⟩ := am_okA hf
          refine W.anew hx hb hown (hts _ hlk) (va_AO.use (hU.2.2.1 t htl)) rfl hd rfl hl.2.1 (by omega) hc hs fun cA kA comp f1 f2 f3 f4 => ?_
          generalize hH1 : H.push ({ cls := cA, slots := Array.replicate x.toNatClampNeg .null, vm := .none } : Cell) = H1
          have z1 : H1.size = H.size + 1 := by rw [← hH1, Array.size_push]
          have e1 : H1[H.size]? = some (arrV cA x.toNatClampNeg (fun _ => .null)) := by rw [← hH1, Array.getElem?_push_size, ← arrV_new]
          have o1 : ∀ q : Nat, q < H.size → H1[q]? = H[q]? := fun q hq => by rw [← hH1, Array.getElem?_push, if_neg (Nat.ne_of_lt hq)]
          have ht : (am_tys cy)[t + 2]? = some (cy (t + 2), .object (am_C (am_acl t)).1) := by
            rw [am_tys_get (by omega)]
            unfold am_aty
            rw [if_neg (by omega), if_neg (by omega), show t + 2 - 2 = t by omega]
          have hcA : cA = cy (t + 2) := by
            obtain ⟨_, _, _, _, _, h9⟩ := (hU.1.2 (t + 2) _ ht).2
            exact Option.some.inj (f1.symm.trans h9)
          have k := k H1 (am_H_mk hH hl.1.1 hl.1.2 z1 o1 ?_) (am_S_grow hS z1 o1)
          · have k : W p l e R s m args below meth c H1 locs (cells + 1) (slots + x.toNatClampNeg) Q (F0 m (pc + 3) lsA (Value.ref (am_ad b h0 σ.1.length) :: r.map (am_v b h0))) := k
            rw [am_ad_lt (n := am_scr) hl.1.1 (Nat.le_refl _), ← hz] at k
            exact k
          · rw [am_e_ref am_mk_get (by omega)]
            show H1[h0 + σ.1.length]? = some (vp_cell _ _)
            rw [← hz, e1, vp_cell_q, hcA, show 52 + t - 50 = t + 2 by omega]
            congr 2
            funext q
            show _ = va_rf (Option.map (am_ad b h0) (am_pg (σ.2.2.2.1 ++ [am_row (52 + t) x.toNatClampNeg]) σ.1.length q))
            rw [am_pg_new hl.1.2]
            rfl
        · cases h
      · cases h
    · cases h
  all_goals
    have h : none = some (n, st', σ') := h
    cases h
end AMA
