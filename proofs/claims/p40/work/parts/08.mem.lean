/-! READING, WRITING, MAKING -/
theorem am_e_obj {b h0 : Nat} {cy : Nat → ClassId} {σ : am_M} {a c n : Nat} (h : σ.1[a]? = some (c, n)) (hc : c < 50) : am_e b h0 cy σ a = .inr (c, (List.range n).map (fun k => am_fv b h0 σ a k (am_ty c k))) := by
  unfold am_e
  rw [h]
  dsimp only
  rw [if_pos hc]
theorem am_e_int {b h0 : Nat} {cy : Nat → ClassId} {σ : am_M} {a c n : Nat} (h : σ.1[a]? = some (c, n)) (h1 : 50 ≤ c) (h2 : c < 52) : am_e b h0 cy σ a = .inl (cy (c - 50), n, .inl (σ.2.1 a)) := by
  unfold am_e
  rw [h]
  dsimp only
  rw [if_neg (by omega), if_pos h2]
theorem am_e_ref {b h0 : Nat} {cy : Nat → ClassId} {σ : am_M} {a c n : Nat} (h : σ.1[a]? = some (c, n)) (h1 : 52 ≤ c) : am_e b h0 cy σ a = .inl (cy (c - 50), n, .inr (.inr (.inr (.inr (fun j => (am_pg σ.2.2.2.1 a j).map (am_ad b h0)))))) := by
  unfold am_e
  rw [h]
  dsimp only
  rw [if_neg (by omega), if_neg (by omega)]
theorem am_in {α : Type} {l : List α} {a : Nat} {v : α} (h : l[a]? = some v) : a < l.length := (List.getElem?_eq_some_iff.mp h).1
theorem am_c50 {c : Nat} (h : c < vwCl.length) : c < 50 := Nat.lt_of_lt_of_le h (by decide)
/-- the world behind a change of one cell -/
theorem am_W_set {b h0 : Nat} {cy : Nat → ClassId} {σ σ' : am_M} {a : Nat} (ha : a < σ.1.length) (hk : σ'.1 = σ.1) (ho : ∀ x, x ≠ a → am_e b h0 cy σ' x = am_e b h0 cy σ x) : (am_W b h0 cy σ).set a (h0 + a, am_e b h0 cy σ' a) = am_W b h0 cy σ' := by
  refine List.ext_getElem? fun x => ?_
  by_cases hx : x = a
  · subst hx
    rw [List.getElem?_set_self (by rw [am_W_len]; exact ha), am_W_get (by rw [hk]; exact ha)]
  · rw [List.getElem?_set_ne (Ne.symm hx)]
    by_cases hl : x < σ.1.length
    · rw [am_W_get hl, am_W_get (by rw [hk]; exact hl), ho x hx]
    · rw [List.getElem?_eq_none (by rw [am_W_len]; omega), List.getElem?_eq_none (by rw [am_W_len, hk]; omega)]
theorem am_up_ne {α : Type} {f : Nat → Nat → α} {a k x : Nat} {v : α} (h : x ≠ a) : am_up f a k v x = f x := by
  unfold am_up va_up
  rw [if_neg h]
theorem am_up_eq {α : Type} {f : Nat → Nat → α} {a k : Nat} {v : α} : am_up f a k v a = va_up (f a) k v := by
  unfold am_up
  show (if a = a then _ else _) = _
  rw [if_pos rfl]
theorem am_up_at {α : Type} {f : Nat → Nat → α} {a k : Nat} {v : α} : am_up f a k v a k = v := by
  rw [am_up_eq]
  unfold va_up
  rw [if_pos rfl]
theorem am_up_k {α : Type} {f : Nat → Nat → α} {a k j : Nat} {v : α} (h : j ≠ k) : am_up f a k v a j = f a j := by
  rw [am_up_eq]
  unfold va_up
  rw [if_neg h]
theorem am_ps_at {P : List (List (Option Nat))} {a k : Nat} {v : Option Nat} (h1 : a < P.length) (h2 : k < (P.getD a []).length) : am_pg (am_ps P a k v) a k = v := by
  unfold am_pg am_ps
  rw [List.getD_eq_getElem?_getD (l := P.set _ _), List.getElem?_set_self h1]
  show List.getD (List.set _ _ _) k none = v
  rw [List.getD_eq_getElem?_getD, List.getElem?_set_self h2]
  rfl
theorem am_ps_k {P : List (List (Option Nat))} {a k j : Nat} {v : Option Nat} (h1 : a < P.length) (h : j ≠ k) : am_pg (am_ps P a k v) a j = am_pg P a j := by
  unfold am_pg am_ps
  rw [List.getD_eq_getElem?_getD (l := P.set _ _), List.getElem?_set_self h1]
  show List.getD (List.set _ _ _) j none = _
  rw [List.getD_eq_getElem?_getD, List.getElem?_set_ne (Ne.symm h), ← List.getD_eq_getElem?_getD]
theorem am_ps_ne {P : List (List (Option Nat))} {a k x : Nat} {v : Option Nat} (h : x ≠ a) : am_pg (am_ps P a k v) x = am_pg P x := by
  funext j
  unfold am_pg am_ps
  rw [List.getD_eq_getElem?_getD (l := P.set _ _), List.getElem?_set_ne (Ne.symm h), ← List.getD_eq_getElem?_getD]
theorem am_fa_eq {σ σ' : am_M} {a k : Nat} (ty : FieldType) (h1 : σ'.2.1 a k = σ.2.1 a k) (h2 : σ'.2.2.1 a k = σ.2.2.1 a k) (h3 : am_pg σ'.2.2.2.1 a k = am_pg σ.2.2.2.1 a k) : am_fa σ' a k ty = am_fa σ a k ty := by
  cases ty <;> simp [am_fa, h1, h2, h3]
theorem am_e_eq {b h0 : Nat} {cy : Nat → ClassId} {σ σ' : am_M} {x : Nat} (hk : σ'.1[x]? = σ.1[x]?) (h1 : σ'.2.1 x = σ.2.1 x) (h2 : σ'.2.2.1 x = σ.2.2.1 x) (h3 : am_pg σ'.2.2.2.1 x = am_pg σ.2.2.2.1 x) : am_e b h0 cy σ' x = am_e b h0 cy σ x := by
  unfold am_e
  rw [hk, h1, h3]
  have : ∀ (k : Nat) (ty : FieldType), am_fv b h0 σ' x k ty = am_fv b h0 σ x k ty := fun k ty => congrArg (am_v b h0) (am_fa_eq ty (by rw [h1]) (by rw [h2]) (by rw [h3]))
  simp only [this]
/-- what putfield makes of the memory -/
theorem am_pf_of {σ σ' : am_M} {a k : Nat} {ty : FieldType} {v : Value} (h : am_pf σ a k ty v = some σ') : σ'.1 = σ.1 ∧ σ'.2.2.2.2 = σ.2.2.2.2 ∧ (∀ x, x ≠ a → σ'.2.1 x = σ.2.1 x ∧ σ'.2.2.1 x = σ.2.2.1 x ∧ am_pg σ'.2.2.2.1 x = am_pg σ.2.2.2.1 x) ∧ (∀ j, j ≠ k → σ'.2.1 a j = σ.2.1 a j ∧ σ'.2.2.1 a j = σ.2.2.1 a j ∧ am_pg σ'.2.2.2.1 a j = am_pg σ.2.2.2.1 a j) ∧ am_fa σ' a k ty = v ∧ narrow ty v = v ∧ fits ty v = true ∧ ∀ b h0, narrow ty (am_v b h0 v) = am_v b h0 v ∧ fits ty (am_v b h0 v) = true := by
  unfold am_pf at h
  split at h
  · cases h
    exact ⟨rfl, rfl, fun x hx => ⟨rfl, am_up_ne hx, rfl⟩, fun j hj => ⟨rfl, am_up_k hj, rfl⟩, congrArg Value.long am_up_at, rfl, rfl, fun b h0 => ⟨rfl, rfl⟩⟩
  · cases h
    exact ⟨rfl, rfl, fun x hx => ⟨am_up_ne hx, rfl, rfl⟩, fun j hj => ⟨am_up_k hj, rfl, rfl⟩, congrArg Value.int am_up_at, rfl, rfl, fun b h0 => ⟨rfl, rfl⟩⟩
  · split at h
    · rename_i x hx
      cases h
      have hn : narrow .boolean (.int x) = .int x ∧ fits .boolean (.int x) = true := by
        rcases hx with rfl | rfl <;> exact ⟨by decide, by decide⟩
      exact ⟨rfl, rfl, fun x hx => ⟨am_up_ne hx, rfl, rfl⟩, fun j hj => ⟨am_up_k hj, rfl, rfl⟩, congrArg Value.int am_up_at, hn.1, hn.2, fun b h0 => hn⟩
    · cases h
  · split at h
    · rename_i hc
      cases h
      refine ⟨rfl, rfl, fun x hx => ⟨rfl, rfl, am_ps_ne hx⟩, fun j hj => ⟨rfl, rfl, am_ps_k hc.1 hj⟩, ?_, rfl, rfl, fun b h0 => ⟨rfl, rfl⟩⟩
      show va_rf (am_pg (am_ps _ _ _ _) _ _) = _
      rw [am_ps_at hc.1 hc.2]
      rfl
    · cases h
  · split at h
    · rename_i hc
      cases h
      refine ⟨rfl, rfl, fun x hx => ⟨rfl, rfl, am_ps_ne hx⟩, fun j hj => ⟨rfl, rfl, am_ps_k hc.1 hj⟩, ?_, rfl, rfl, fun b h0 => ⟨rfl, rfl⟩⟩
      show va_rf (am_pg (am_ps _ _ _ _) _ _) = _
      rw [am_ps_at hc.1 hc.2]
      rfl
    · cases h
  · cases h
section AMM
variable {p : Program} {l : Launch} {e : Env} {R : Room} {s : State} {m : MethodId} {args : Array Value} {below : List Frame} {meth : Method} {c : Code} {H : Heap} {locs : List Loc} {cells slots : Nat} {Q : State → Prop}
variable {cc : ByteArray} {pc : Nat} {lsA : Array Slot} {b h0 : Nat} {D : va_G} {cy : Nat → ClassId} {X : am_X} {σ σ' : am_M}
set_option maxHeartbeats 4000000 in
theorem am_rd_ok (hx : p.tables.exec = Jvm.exec) (hb : c.code = cc) {o : Nat} (hown : s.vm.findClass (T_R o) = some m.cls) (hts : ∀ w ∈ am_gw, w.before args s = true) (hU : am_S D b h0 cy X s) (hH : am_H D b h0 cy σ H) (hS : va_S (fun q => h0 ≤ q) s.heap H locs) {i : Instr} {n : Nat} {st st' : List Value} (hd : decode cc pc = .ok (i, n)) (h : am_rd X o i st σ = some (n, st'))
    (k : W p l e R s m args below meth c H locs cells slots Q (F0 m (pc + n) lsA (st'.map (am_v b h0)))) : W p l e R s m args below meth c H locs cells slots Q (F0 m pc lsA (st.map (am_v b h0))) := by
  obtain ⟨hP, hz, hsz⟩ := hH
  cases i
  case getfield q =>
    unfold am_rd at h
    dsimp only at h
    split at h
    · rename_i ci f pp hf
      split at h
      · rename_i a r
        split at h
        · rename_i hk
          cases h
          obtain ⟨hci, hff, hlk⟩ := am_okF hf
          obtain ⟨-, -, hin, -⟩ := am_okC hci
          have he : (am_W b h0 cy σ)[a]? = some (h0 + a, .inr (ci, (List.range (am_nf ci)).map (fun k => am_fv b h0 σ a k (am_ty ci k)))) := by rw [am_W_get (am_in hk), am_e_obj hk (am_c50 hci)]
          show W _ _ _ _ _ _ _ _ _ _ _ _ _ _ _ (F0 m pc lsA (Value.ref (am_ad b h0 a) :: r.map (am_v b h0)))
          rw [am_ad_lt (am_in hk) hsz]
          exact va_get hx hb (C := (am_C ci).1) (T := (am_C ci).2.1) (N := am_nf ci) (ci := ci) hts hin hown hU.1 hP a he (am_getC hci) f hff (hts _ hlk) (fun x hx => hx) (v := am_fv b h0 σ a f (am_ty ci f)) (by rw [List.getElem?_map, List.getElem?_range hff]; rfl) hd k
        · cases h
      · cases h
    · cases h
  case iaload =>
    unfold am_rd at h
    dsimp only at h
    split at h
    · rename_i x a r
      split at h
      · rename_i ha
        subst ha
        split at h
        · rename_i Y
          split at h
          · rename_i hin
            cases h
            show W _ _ _ _ _ _ _ _ _ _ _ _ _ _ _ (F0 m pc lsA (Value.int x :: Value.ref (am_ad b h0 am_scr) :: r.map (am_v b h0)))
            rw [am_ad_scr]
            exact va_sld (A := fun q => h0 ≤ q) hx hb (hU.2.2.2.1 Y rfl) (by have := hU.2.2.2.2.1; have := hU.2.2.2.2.2; omega) (by have := hU.2.2.2.2.1; omega) hS hin hd k
          · cases h
        · cases h
      · split at h
        · rename_i nn hk
          split at h
          · rename_i hin
            cases h
            show W _ _ _ _ _ _ _ _ _ _ _ _ _ _ _ (F0 m pc lsA (Value.int x :: Value.ref (am_ad b h0 a) :: r.map (am_v b h0)))
            rw [am_ad_lt (am_in hk) hsz]
            exact va_iald hx hb hU.1 hP a 0 (by rw [am_W_get (am_in hk), am_e_int hk (by omega) (by omega)]) (am_tys_get (by omega)) hin hd k
          · cases h
        · cases h
    · cases h
  case baload =>
    unfold am_rd at h
    dsimp only at h
    split at h
    · rename_i x a r
      split at h
      · rename_i nn hk
        split at h
        · rename_i hin
          cases h
          show W _ _ _ _ _ _ _ _ _ _ _ _ _ _ _ (F0 m pc lsA (Value.int x :: Value.ref (am_ad b h0 a) :: r.map (am_v b h0)))
          rw [am_ad_lt (am_in hk) hsz]
          exact va_zald hx hb hU.1 hP a 1 (by rw [am_W_get (am_in hk), am_e_int hk (by omega) (by omega)]) (am_tys_get (by omega)) hin hd k
        · cases h
      · cases h
    · cases h
  case aaload =>
    unfold am_rd at h
    dsimp only at h
    split at h
    · rename_i x a r
      split at h
      · rename_i cq nn hk
        split at h
        · rename_i hin
          cases h
          show W _ _ _ _ _ _ _ _ _ _ _ _ _ _ _ (F0 m pc lsA (Value.int x :: Value.ref (am_ad b h0 a) :: r.map (am_v b h0)))
          rw [am_ad_lt (am_in hk) hsz]
          have ht : (am_tys cy)[cq - 50]? = some (cy (cq - 50), .object (am_C (am_acl (cq - 50 - 2))).1) := by
            rw [am_tys_get (by omega)]
            unfold am_aty
            rw [if_neg (by omega), if_neg (by omega)]
          refine va_aldq hx hb hU.1 hP a (cq - 50) (by rw [am_W_get (am_in hk), am_e_ref hk hin.1]) ht hin.2.2 hd ?_
          have k : W p l e R s m args below meth c H locs cells slots Q (F0 m (pc + 1) lsA (am_v b h0 (va_rf (am_pg σ.2.2.2.1 a x.toNatClampNeg)) :: r.map (am_v b h0))) := k
          rw [am_v_rf] at k
          exact k
        · cases h
      · cases h
    · cases h
  case arraylength =>
    unfold am_rd at h
    dsimp only at h
    split at h
    · rename_i a r
      split at h
      · rename_i ha
        subst ha
        obtain ⟨Y, hY, h2⟩ := Option.map_eq_some_iff.mp h
        cases h2
        show W _ _ _ _ _ _ _ _ _ _ _ _ _ _ _ (F0 m pc lsA (Value.ref (am_ad b h0 am_scr) :: r.map (am_v b h0)))
        rw [am_ad_scr]
        exact va_slen (A := fun q => h0 ≤ q) hx hb (hU.2.2.2.1 Y hY) (by have := hU.2.2.2.2.1; have := hU.2.2.2.2.2; omega) (by have := hU.2.2.2.2.1; omega) hS hd k
      · split at h
        · rename_i cq nn hk
          split at h
          · rename_i hin
            cases h
            show W _ _ _ _ _ _ _ _ _ _ _ _ _ _ _ (F0 m pc lsA (Value.ref (am_ad b h0 a) :: r.map (am_v b h0)))
            rw [am_ad_lt (am_in hk) hsz]
            by_cases h52 : cq < 52
            · exact va_alen (x := (nn, .inl (σ.2.1 a))) hx hb hU.1 hP a (cq - 50) (by rw [am_W_get (am_in hk), am_e_int hk hin.1 h52]) (am_tys_get (by omega)) rfl hd k
            · exact va_alen (x := (nn, .inr (.inr (.inr (.inr (fun j => (am_pg σ.2.2.2.1 a j).map (am_ad b h0))))))) hx hb hU.1 hP a (cq - 50) (by rw [am_W_get (am_in hk), am_e_ref hk (by omega)]) (am_tys_get (by omega)) rfl hd k
          · cases h
        · cases h
    · cases h
  all_goals
    have h : none = some (n, st') := h
    cases h
/-- a field is written: the heap's size stays -/
theorem am_put (hx : p.tables.exec = Jvm.exec) (hb : c.code = cc) {own C : String} {T : u_T} {N ci index : Nat} (hts : ∀ w ∈ am_gw, w.before args s = true) (hin : ∀ w ∈ u_ws C T N, w ∈ am_gw) (ty0 : Nat → FieldType) (hty : ∀ k, k < N → parseFieldDescriptor (T k).2.2.1 = some (ty0 k)) (hnm : ∀ a, a < N → ∀ b, b < N → a ≠ b → (T a).2.1 ≠ (T b).2.1) (hown : s.vm.findClass own = some m.cls)
    {tys : List (ClassId × FieldType)} {ws : va_W} {A : Nat → Prop} {a : Nat} (hK : va_K D vwCl tys s) (hP : va_P D vwCl ws H) (hD : va_D A ws) (q0 : Nat) {fs : List Value} (he : ws[q0]? = some (a, .inr (ci, fs))) (hc : vwCl[ci]? = some (C, T, N)) (k : Nat) (hk : k < N) (hlink : (Cond.fieldLink own index (T k).1 (T k).2.1 (T k).2.2.1).before args s = true)
    (hfin : (T k).2.2.2 = false ∨ (meth.name = "<init>" ∧ (T k).1 = own)) {v : Value} (hn : narrow (ty0 k) v = v) (hfit : fits (ty0 k) v = true) (hl : k < fs.length) {rest : List Value} (hdg : decode cc pc = .ok (.putfield index, 3))
    (kk : ∀ (H1 : Heap) (j : Nat), H1.size = H.size → (∀ q, q ≠ a → H1[q]? = H[q]?) → va_P D vwCl (ws.set q0 (a, .inr (ci, fs.set k v))) H1 → W p l e R s m args below meth c H1 (locs ++ [⟨a, j⟩]) cells slots Q (F0 m (pc + 3) lsA rest)) : W p l e R s m args below meth c H locs cells slots Q (F0 m pc lsA (v :: .ref a :: rest)) := by
  have hap := va_apart (own := own) hts hin ty0 hty hnm hK hc
  obtain ⟨r, h1, cell, q1, q2, q3, q4⟩ := hP q0 _ he
  have hr : r = (C, T, N) := Option.some.inj (h1.symm.trans hc)
  subst hr
  obtain ⟨hS, hfc, kC, hkC, hkind⟩ := hK.1 ci _ hc
  obtain ⟨cf, kf, fi, f, hi, hsl⟩ := hS k hk
  have hlay := hts _ (hin _ (u_in_lay hk))
  have hst := (u_facts hfc hkC (u_lays hts hin hk) hi).1
  have fin : ∀ H' : Heap, H'[a]? = some (cell.setSlot f.slot v) → H'.size = H.size → (∀ q, q ≠ a → H'[q]? = H[q]?) → W p l e R s m args below meth c H' (locs ++ [⟨a, f.slot⟩]) cells slots Q (F0 m (pc + 3) lsA rest) := by
    intro H' e1 e2 e3
    rw [hsl] at e1
    exact kk H' f.slot e2 e3 (hP.set hD he ⟨_, hc, t_OB.to (V := updV (vp_V fs) k v) ⟨_, e1, q2, q3, t_set q4 hap hk v⟩ (fun j _ => vp_updV_set hl v j)⟩ e3)
  by_cases hf : (T k).2.2.2 = true
  · have hf2 : meth.name = "<init>" ∧ (T k).1 = own := by
      rcases hfin with z | z
      · rw [hf] at z; cases z
      · exact z
    unfold u_lay at hlay
    rw [if_pos hf] at hlay
    have hcf : m.cls = cf := by
      obtain ⟨_, _, c', _, _, _, -, -, hf', -, -, -, hown2, -⟩ := Cond.laysFinal_spec hlay
      have e1 : c' = cf := by have := hi.symm.trans hf'; simp at this; exact this.1.symm
      rw [hf2.2] at hown2
      rw [← e1]; exact Option.some.inj (hown.symm.trans hown2)
    have h6 := u_fits hfc hkC hkind (Or.inr hlay) hi (hty k hk) hn hfit
    exact W.putFinK hx hb hown hlink hi hst hcf hf2.1 (by rw [q2]; exact h6) q1 q3 (by rw [hsl]; exact k2_hasslot (q4 k hk)) rfl rfl hdg fin
  · unfold u_lay at hlay
    rw [if_neg hf] at hlay
    have h6 := u_store hfc hkC hkind hlay hi (hty k hk) hn hfit
    exact W.putK hx hb (f := f) ⟨hown, hlink, ⟨_, _, _, hi⟩, hst⟩ (by rw [q2]; exact h6) q1 q3 (by rw [hsl]; exact k2_hasslot (q4 k hk)) rfl rfl hdg fin
set_option maxHeartbeats 4000000 in
theorem am_wr_ok (hx : p.tables.exec = Jvm.exec) (hb : c.code = cc) {o ini : Nat} (hown : s.vm.findClass (T_R o) = some m.cls) (hini : ini = 1 → meth.name = "<init>") (hts : ∀ w ∈ am_gw, w.before args s = true) (hU : am_S D b h0 cy X s) (hH : am_H D b h0 cy σ H) (hS : va_S (fun q => h0 ≤ q) s.heap H locs) {i : Instr} {n : Nat} {st st' : List Value} (hd : decode cc pc = .ok (i, n)) (h : am_wr o ini i st σ = some (n, st', σ'))
    (k : ∀ (H1 : Heap) (locs1 : List Loc), am_H D b h0 cy σ' H1 → va_S (fun q => h0 ≤ q) s.heap H1 locs1 → W p l e R s m args below meth c H1 locs1 cells slots Q (F0 m (pc + n) lsA (st'.map (am_v b h0)))) : W p l e R s m args below meth c H locs cells slots Q (F0 m pc lsA (st.map (am_v b h0))) := by
  obtain ⟨hP, hz, hsz⟩ := hH
  cases i
  case putfield q =>
    unfold am_wr at h
    dsimp only at h
    split at h
    · rename_i ci f pp hf
      split at h
      · rename_i v a r
        split at h
        · rename_i hk
          obtain ⟨σ1, hp, h2⟩ := Option.map_eq_some_iff.mp h
          cases h2
          obtain ⟨hci, hff, hlk⟩ := am_okF hf
          obtain ⟨-, -, hin, hty⟩ := am_okC hci
          obtain ⟨g1, g2, g3, g4, g5, -, -, g6⟩ := am_pf_of hp
          have ha := am_in hk.1
          have he : (am_W b h0 cy σ)[a]? = some (h0 + a, .inr (ci, (List.range (am_nf ci)).map (fun k => am_fv b h0 σ a k (am_ty ci k)))) := by rw [am_W_get ha, am_e_obj hk.1 (am_c50 hci)]
          show W _ _ _ _ _ _ _ _ _ _ _ _ _ _ _ (F0 m pc lsA (am_v b h0 v :: Value.ref (am_ad b h0 a) :: st'.map (am_v b h0)))
          rw [am_ad_lt ha hsz]
          refine am_put (own := T_R o) (C := (am_C ci).1) (T := (am_C ci).2.1) (N := am_nf ci) hx hb hts hin (am_ty ci) hty (am_nms ci hci) hown hU.1 hP (am_W_D b h0 cy σ) a he (am_getC hci) f hff (hts _ hlk) (hk.2.imp id (fun z => ⟨hini z.1, z.2⟩)) (g6 b h0).1 (g6 b h0).2 (by rw [List.length_map, List.length_range]; exact hff) hd fun H1 j z1 oq hP1 => ?_
          have hE : am_e b h0 cy σ' a = .inr (ci, ((List.range (am_nf ci)).map (fun k => am_fv b h0 σ a k (am_ty ci k))).set f (am_v b h0 v)) := by
            rw [am_e_obj (by rw [g1]; exact hk.1) (am_c50 hci)]
            congr 2
            refine List.ext_getElem? fun x => ?_
            by_cases hxf : x = f
            · subst hxf
              rw [List.getElem?_set_self (by rw [List.length_map, List.length_range]; exact hff), List.getElem?_map, List.getElem?_range hff]
              show some (am_v b h0 (am_fa σ' a x (am_ty ci x))) = _
              rw [g5]
            · rw [List.getElem?_set_ne (Ne.symm hxf), List.getElem?_map, List.getElem?_map]
              by_cases hxn : x < am_nf ci
              · rw [List.getElem?_range hxn]
                show some (am_v b h0 (am_fa σ' a x (am_ty ci x))) = some (am_v b h0 (am_fa σ a x (am_ty ci x)))
                rw [am_fa_eq (am_ty ci x) (g4 x hxf).1 (g4 x hxf).2.1 (g4 x hxf).2.2]
              · rw [List.getElem?_eq_none (by rw [List.length_range]; omega)]
                rfl
          rw [← hE, am_W_set ha g1 (fun x hxa => am_e_eq (by rw [g1]) (g3 x hxa).1 (g3 x hxa).2.1 (g3 x hxa).2.2)] at hP1
          exact k H1 _ ⟨hP1, by rw [z1, hz, g1], by rw [g1]; exact hsz⟩ (hS.put z1 oq (Nat.le_add_right _ _))
        · cases h
      · cases h
    · cases h
  case iastore =>
    unfold am_wr at h
    dsimp only at h
    split at h
    · rename_i v x a r
      split at h
      · rename_i nn hk
        split at h
        · rename_i hin
          cases h
          have ha := am_in hk
          have he : (am_W b h0 cy σ)[a]? = some (h0 + a, .inl (cy 0, nn, .inl (σ.2.1 a))) := by rw [am_W_get ha, am_e_int hk (by omega) (by omega)]
          show W _ _ _ _ _ _ _ _ _ _ _ _ _ _ _ (F0 m pc lsA (Value.int v :: Value.int x :: Value.ref (am_ad b h0 a) :: st'.map (am_v b h0)))
          rw [am_ad_lt ha hsz]
          refine W.iast hx hb (hP a _ he) ((hU.1.2 0 _ (am_tys_get (by omega))).1 nn (fun j => .int (σ.2.1 a j))) (fun q => by cases q) (by show ¬ (x < 0 ∨ (arrV _ _ _).slots.size ≤ _); rw [arrV_size]; exact hin) rfl rfl hd fun H1 e1 z1 oq => ?_
          have hE : va_at D vwCl (h0 + a, am_e b h0 cy (σ.1, am_up σ.2.1 a x.toNatClampNeg v, σ.2.2.1, σ.2.2.2.1, σ.2.2.2.2) a) H1 := by
            rw [am_e_int (σ := (σ.1, am_up σ.2.1 a x.toNatClampNeg v, σ.2.2.1, σ.2.2.2.1, σ.2.2.2.2)) (c := 50) (n := nn) hk (by omega) (by omega)]
            show H1[h0 + a]? = some (vp_cell _ _)
            rw [e1]
            rw [vp_cell_i, vp_cell_i, arrV_store]
            congr 2
            funext q
            show _ = Value.int (am_up σ.2.1 a x.toNatClampNeg v a q)
            rw [am_up_eq]
            by_cases hq : q = x.toNatClampNeg
            · subst hq
              simp [updV, va_up]
            · simp [updV, va_up, hq]
          have hP1 := hP.set (am_W_D b h0 cy σ) he hE oq
          rw [am_W_set (σ' := (σ.1, am_up σ.2.1 a x.toNatClampNeg v, σ.2.2.1, σ.2.2.2.1, σ.2.2.2.2)) ha rfl (fun y hy => am_e_eq rfl (am_up_ne hy) rfl rfl)] at hP1
          exact k H1 _ ⟨hP1, by rw [z1, hz], hsz⟩ (hS.put z1 oq (Nat.le_add_right _ _))
        · cases h
      · cases h
    · cases h
  case bastore =>
    unfold am_wr at h
    dsimp only at h
    split at h
    · rename_i v x a r
      split at h
      · rename_i nn hk
        split at h
        · rename_i hin
          cases h
          have ha := am_in hk
          have hv : vp_nar .boolean v = v := by
            rcases hin.2 with rfl | rfl <;> decide
          have he : (am_W b h0 cy σ)[a]? = some (h0 + a, .inl (cy 1, nn, .inl (σ.2.1 a))) := by rw [am_W_get ha, am_e_int hk (by omega) (by omega)]
          show W _ _ _ _ _ _ _ _ _ _ _ _ _ _ _ (F0 m pc lsA (Value.int v :: Value.int x :: Value.ref (am_ad b h0 a) :: st'.map (am_v b h0)))
          rw [am_ad_lt ha hsz]
          refine W.zast hx hb (hP a _ he) ((hU.1.2 1 _ (am_tys_get (by omega))).1 nn (fun j => .int (σ.2.1 a j))) (fun q => by cases q) (by show ¬ (x < 0 ∨ (arrV _ _ _).slots.size ≤ _); rw [arrV_size]; exact hin.1) rfl rfl hd fun H1 e1 z1 oq => ?_
          have hE : va_at D vwCl (h0 + a, am_e b h0 cy (σ.1, am_up σ.2.1 a x.toNatClampNeg v, σ.2.2.1, σ.2.2.2.1, σ.2.2.2.2) a) H1 := by
            rw [am_e_int (σ := (σ.1, am_up σ.2.1 a x.toNatClampNeg v, σ.2.2.1, σ.2.2.2.1, σ.2.2.2.2)) (c := 51) (n := nn) hk (by omega) (by omega)]
            show H1[h0 + a]? = some (vp_cell _ _)
            rw [e1]
            rw [vp_cell_i, vp_cell_i, arrV_store]
            congr 2
            funext q
            show _ = Value.int (am_up σ.2.1 a x.toNatClampNeg v a q)
            rw [am_up_eq]
            by_cases hq : q = x.toNatClampNeg
            · subst hq
              rcases hin.2 with rfl | rfl <;> simp [updV, va_up, narrow] <;> decide
            · simp [updV, va_up, hq]
          have hP1 := hP.set (am_W_D b h0 cy σ) he hE oq
          rw [am_W_set (σ' := (σ.1, am_up σ.2.1 a x.toNatClampNeg v, σ.2.2.1, σ.2.2.2.1, σ.2.2.2.2)) ha rfl (fun y hy => am_e_eq rfl (am_up_ne hy) rfl rfl)] at hP1
          exact k H1 _ ⟨hP1, by rw [z1, hz], hsz⟩ (hS.put z1 oq (Nat.le_add_right _ _))
        · cases h
      · cases h
    · cases h
  case aastore =>
    unfold am_wr at h
    dsimp only at h
    split at h
    · rename_i v x a r
      split at h
      · rename_i cq nn hk
        split at h
        · rename_i hin
          cases h
          obtain ⟨c1, c2, c3, c4, c5, c6⟩ := hin
          have ha := am_in hk
          have hvl := am_in c4
          have hac : am_acl (cq - 52) < vwCl.length := am_acl_lt (by omega)
          have he : (am_W b h0 cy σ)[a]? = some (h0 + a, .inl (cy (cq - 50), nn, .inr (.inr (.inr (.inr (fun j => (am_pg σ.2.2.2.1 a j).map (am_ad b h0))))))) := by rw [am_W_get ha, am_e_ref hk c1]
          have hev : (am_W b h0 cy σ)[v]? = some (h0 + v, .inr (am_acl (cq - 52), (List.range (am_nf (am_acl (cq - 52)))).map (fun k => am_fv b h0 σ v k (am_ty (am_acl (cq - 52)) k)))) := by rw [am_W_get hvl, am_e_obj c4 (am_c50 hac)]; rfl
          have ht : (am_tys cy)[cq - 50]? = some (cy (cq - 50), .object (am_C (am_acl (cq - 52))).1) := by
            rw [am_tys_get (by omega)]
            unfold am_aty
            rw [if_neg (by omega), if_neg (by omega), show cq - 50 - 2 = cq - 52 by omega]
          show W _ _ _ _ _ _ _ _ _ _ _ _ _ _ _ (F0 m pc lsA (Value.ref (am_ad b h0 v) :: Value.int x :: Value.ref (am_ad b h0 a) :: st'.map (am_v b h0)))
          rw [am_ad_lt ha hsz, am_ad_lt hvl hsz]
          have hlt : x.toNatClampNeg < nn := Nat.not_le.mp fun q => c3 (Or.inr q)
          have hx0 : ¬ x < 0 := fun q => c3 (Or.inl q)
          obtain ⟨r', hr', cellV, y1, y2, y3, -⟩ := hP v _ hev
          have hcls := (hU.1.1 _ _ (am_getC hac)).2
          obtain ⟨kA, comp, k1, k2, k3, -⟩ := (hU.1.2 _ _ ht).2
          have hcomp : comp = D.1 (am_acl (cq - 52)) := Option.some.inj (k3.symm.trans hcls.1)
          subst hcomp
          obtain ⟨kC, hkC, -⟩ := hcls.2
          refine W.aast hx hb (hP a _ he) (fun q h => by cases h) (fun h => by cases h) k1 k2 rfl hkC ⟨hx0, by show _ < (arrV _ _ _).slots.size; rw [arrV_size]; exact hlt⟩ y1 (fun q h => by rw [y3] at h; cases h) (by rw [y2]; exact hkC) (by rw [y2]; exact va_assign hcls) rfl rfl hd fun H1 e1 z1 oq => ?_
          have hE : va_at D vwCl (h0 + a, am_e b h0 cy (σ.1, σ.2.1, σ.2.2.1, am_ps σ.2.2.2.1 a x.toNatClampNeg (some v), σ.2.2.2.2) a) H1 := by
            rw [am_e_ref (σ := (σ.1, σ.2.1, σ.2.2.1, am_ps σ.2.2.2.1 a x.toNatClampNeg (some v), σ.2.2.2.2)) (c := cq) (n := nn) hk c1]
            show H1[h0 + a]? = some (vp_cell _ _)
            rw [e1]
            rw [vp_cell_q, vp_cell_q, arrV_store]
            congr 2
            funext q
            show _ = va_rf (Option.map (am_ad b h0) (am_pg (am_ps σ.2.2.2.1 a x.toNatClampNeg (some v)) a q))
            by_cases hq : q = x.toNatClampNeg
            · subst hq
              rw [am_ps_at c5 c6]
              simp [updV, va_rf, am_ad_lt hvl hsz]
            · rw [am_ps_k c5 hq]
              simp [updV, hq]
          have hP1 := hP.set (am_W_D b h0 cy σ) he hE oq
          rw [am_W_set (σ' := (σ.1, σ.2.1, σ.2.2.1, am_ps σ.2.2.2.1 a x.toNatClampNeg (some v), σ.2.2.2.2)) ha rfl (fun y hy => am_e_eq rfl rfl rfl (am_ps_ne hy))] at hP1
          exact k H1 _ ⟨hP1, by rw [z1, hz], hsz⟩ (hS.put z1 oq (Nat.le_add_right _ _))
        · cases h
      · cases h
    · cases h
  all_goals
    have h : none = some (n, st', σ') := h
    cases h
end AMM
