/-! FROM A RUN OF THE ABSTRACT MACHINE TO THE LAW'S WALK -/
def am_00 : am_M := ([], fun _ _ => 0, fun _ _ => 0, [], 0)
theorem am_rt_one {i : Instr} {st : List Value} {ret : Option FieldType} {x : Int32} (h : am_rt ret i st = some (some (.int x))) : i = .ireturn ∧ st = [.int x] := by
  unfold am_rt at h
  split at h
  · split at h
    · split at h
      · cases h; exact ⟨rfl, rfl⟩
      · cases h
    · cases h
  · split at h
    · split at h
      · cases h
      · cases h
    · cases h
  · split at h
    · split at h
      · cases h
      · cases h
    · split at h
      · cases h
      · cases h
    · cases h
  · split at h
    · split at h
      · cases h
      · cases h
    · cases h
  · cases h
set_option maxHeartbeats 4000000 in
theorem am_start {p : Program} {e : Env} {s : State} {m : MethodId} {below : List Frame} {meth : Method} {c : Code} (l : Launch) {b L : Nat} {xs : Nat → Int32} (C0 : lw_At p s m meth c b L xs)
    (hrun : am_wp (some (L, xs)) 10 231 0 [.ref am_scr, am_uv, am_uv, am_uv] [] am_00 (fun v σ' => v = some (.int 1) ∧ σ'.1.length ≤ 600000 ∧ σ'.2.2.2.2 ≤ 7302250)) :
    W p l e room_1 s m #[Value.ref b] below meth c s.heap [] 0 0 (lw_Z below #[Value.ref b] s) (entryFrame m ([Value.ref b] : List Value).toArray 4) := by
  obtain ⟨hx, hb, hr, hml, hown, hts0, hX, hbl, hlocks, hgv⟩ := id C0
  have hts : ∀ w ∈ am_gw, w.before #[Value.ref b] s = true := fun w hw => hts0 w (List.mem_filter.mp hw).1
  have hcls : ∀ ci : Nat, ∃ (cC : ClassId) (iS : Nat → Nat), ci < vwCl.length → u_Kn s (am_C ci).1 (am_C ci).2.1 (am_nf ci) cC iS := by
    intro ci
    by_cases h : ci < vwCl.length
    · obtain ⟨hi1, hi2, hin, -⟩ := am_okC h
      obtain ⟨cC, iS, hk⟩ := u_known (ws := am_gw) hts hin (hts _ hi1)
      exact ⟨cC, iS, fun _ => hk⟩
    · exact ⟨0, fun _ => 0, fun z => absurd z h⟩
  have hovr : ∀ t, t < T_arr.length → (Cond.arrayOver (.object (am_C (am_acl t)).1)).before #[Value.ref b] s = true := fun t ht => hts0 _ (List.mem_of_getElem? (of_decide_eq_true (List.all_eq_true.mp am_tO t (List.mem_range.mpr ht))))
  have hcy : ∀ t : Nat, ∃ cA : ClassId, t < 2 + T_arr.length → ArrOfT s cA (am_aty t) ∧ va_RA s cA (am_aty t) := by
    intro t
    match t with
    | 0 =>
      obtain ⟨cA, kA, comp, h1, h2, h3⟩ := Cond.arrayClass_spec (hts _ am_pI)
      exact ⟨cA, fun _ => ⟨fun n z => ⟨fun k h => (by cases h), kA, h2, comp, h3⟩, h1⟩⟩
    | 1 =>
      obtain ⟨cA, kA, comp, h1, h2, h3⟩ := Cond.arrayClass_spec (hts _ am_pZ)
      exact ⟨cA, fun _ => ⟨fun n z => ⟨fun k h => (by cases h), kA, h2, comp, h3⟩, h1⟩⟩
    | t + 2 =>
      by_cases h : t < T_arr.length
      · obtain ⟨comp, cA, kA, h1, -, h2, h3, h4⟩ := Cond.arrayOver_spec (hovr t h)
        refine ⟨cA, fun _ => ?_⟩
        have e : am_aty (t + 2) = .object (am_C (am_acl t)).1 := by
          unfold am_aty
          rw [if_neg (by omega), if_neg (by omega), Nat.add_sub_cancel]
        rw [e]
        exact ⟨fun n z => ⟨fun k h => (by cases h), kA, h2, comp, h3⟩, kA, comp, h2, h3, h1, h4⟩
      · exact ⟨0, fun z => absurd z (by omega)⟩
  obtain ⟨dC, hdC⟩ : ∃ dC : Nat → ClassId, ∀ ci, ∃ iS : Nat → Nat, ci < vwCl.length → u_Kn s (am_C ci).1 (am_C ci).2.1 (am_nf ci) (dC ci) iS := ⟨fun ci => Classical.choose (hcls ci), fun ci => Classical.choose_spec (hcls ci)⟩
  obtain ⟨dI, hdI⟩ : ∃ dI : Nat → Nat → Nat, ∀ ci, ci < vwCl.length → u_Kn s (am_C ci).1 (am_C ci).2.1 (am_nf ci) (dC ci) (dI ci) := ⟨fun ci => Classical.choose (hdC ci), fun ci => Classical.choose_spec (hdC ci)⟩
  obtain ⟨cy, hcyS⟩ : ∃ cy : Nat → ClassId, ∀ t, t < 2 + T_arr.length → ArrOfT s (cy t) (am_aty t) ∧ va_RA s (cy t) (am_aty t) := ⟨fun t => Classical.choose (hcy t), fun t => Classical.choose_spec (hcy t)⟩
  have hK : va_K (dC, dI) vwCl (am_tys cy) s := by
    refine ⟨fun ci q hq => ?_, fun k q hk => ?_⟩
    · have hci : ci < vwCl.length := (List.getElem?_eq_some_iff.mp hq).1
      have := am_getC hci
      rw [hq] at this
      rw [Option.some.inj this]
      exact hdI ci hci
    · have hkl : k < 2 + T_arr.length := by
        have := (List.getElem?_eq_some_iff.mp hk).1
        simpa [am_tys] using this
      rw [am_tys_get hkl] at hk
      rw [← Option.some.inj hk]
      exact hcyS k hkl
  have hU : am_S (dC, dI) b s.heap.size cy (some (L, xs)) s := by
    refine ⟨hK, fun w hw hn => ?_, fun t ht => va_AO.of (hovr t ht), fun Y hY => ?_, hbl, Nat.le_refl _⟩
    · have h7 := hts0 w hw
      cases w with
      | methodLinkNest a i x g => exact va_Nw.of rfl h7
      | _ => simp [am_isN] at hn
    · cases hY
      exact hX
  have hH : am_H (dC, dI) b s.heap.size cy am_00 s.heap := ⟨fun k q h => by simp [am_W, am_00] at h, rfl, Nat.zero_le _⟩
  obtain ⟨n, v, σ', hev, hv, hc1, hc2⟩ := hrun
  subst hv
  have e0 : ([Value.ref b] : List Value) = ([Value.ref am_scr] : List Value).map (am_v b s.heap.size) := by
    show [Value.ref b] = [Value.ref (am_ad b s.heap.size am_scr)]
    rw [am_ad_scr]
  have hl : am_L b s.heap.size ((lg_sl ([Value.ref b] : List Value) ++ List.replicate (4 - (lg_sl ([Value.ref b] : List Value)).length) Slot.unset).toArray) 4 [.ref am_scr, am_uv, am_uv, am_uv] := by
    have := am_en_L (b := b) (h0 := s.heap.size) (n := 4) (as := [Value.ref am_scr]) (by decide)
    rw [← e0] at this
    exact this
  rw [lg_entry_eq]
  refine am_snd l (dC, dI) b s.heap.size cy (some (L, xs)) n 10 231 0 _ [] am_00 _ σ' hev p e room_1 s m _ below meth c s.heap [] 0 0 _ _ ⟨hx, hb, hml, hown, hts, fun z => absurd z (by decide +kernel), Nat.le_refl _, by decide⟩ hU hH va_S.rf hl ?_ ?_ ?_
  · rw [Nat.zero_add]
    exact Nat.le_trans (Nat.sub_le _ _) hc1
  · rw [Nat.zero_add]
    exact Nat.le_trans (Nat.sub_le _ _) hc2
  · intro pc' i st' lsA' H' locs' hi hrt hH' hS'
    obtain ⟨rfl, rfl⟩ := am_rt_one hrt
    have hd := am_di hi
    refine va_forget (fun q hq => hS'.2.2 q hq) ?_
    refine W.widen (k := 600000) (n := 7302250) (by rw [Nat.zero_add]; exact Nat.le_trans (Nat.sub_le _ _) hc1) (by rw [Nat.zero_add]; exact Nat.le_trans (Nat.sub_le _ _) hc2) ?_
    exact lw_ret hx hb hr hlocks hd
