theorem am_cats (b h0 : Nat) (r : List Value) : ((r.map (am_v b h0)).map fun v => v.category).sum = (r.map fun v => v.category).sum := by
  rw [List.map_map]
  congr 1
  refine List.map_congr_left fun v _ => ?_
  exact am_v_cat b h0 v
theorem am_toL (b h0 : Nat) (v : Option Value) (r : List Value) : (v.toList ++ r).map (am_v b h0) = (v.map (am_v b h0)).toList ++ r.map (am_v b h0) := by cases v <;> rfl
section AMJ
variable {p : Program} {l : Launch} {e : Env} {R : Room} {s : State} {m : MethodId} {args : Array Value} {below : List Frame} {meth : Method} {c : Code} {H : Heap} {locs : List Loc} {cells slots : Nat} {Q : State → Prop}
variable {pc : Nat} {lsA : Array Slot} {b h0 : Nat} {D : va_G} {cy : Nat → ClassId} {X : am_X} {σ σ1 : am_M}
theorem am_pre (hU : am_S D b h0 cy X s) (hH : am_H D b h0 cy σ H) (hS : va_S (fun q => h0 ≤ q) s.heap H locs) (as : List Value) : PreS s H (am_Pc D b h0 cy X as σ) (as.map (am_v b h0)) := by
  refine ⟨fun a U g mk q => ⟨q.1, q.2.1.calling, q.2.2⟩, fun U hh hW => ⟨rfl, hU.warm hW (by rw [hh]; exact hU.scr hS) ?_, by rw [hh]; exact hH⟩⟩
  rw [hh, hH.2.1]
  exact Nat.le_add_right _ _
set_option maxHeartbeats 4000000 in
theorem am_ca_ok {n d j k : Nat} {i : Instr} {st as r ls : List Value} {v : Option Value} (IH : am_Snd l D b h0 cy X n) (hF : am_F p s m args meth c R j d) (hU : am_S D b h0 cy X s) (hH : am_H D b h0 cy σ H) (hS : va_S (fun q => h0 ≤ q) s.heap H locs) (hl : am_L b h0 lsA (T_mxl j) ls) (hd : decode (T_code j) pc = .ok (i, 3)) (h : am_ca (T_own j) i st σ = some (some (k, as), r)) (hd0 : 0 < d) (hfl : (am_fl as).length ≤ T_mxl k) (he : am_ev X n (d - 1) k 0 (am_en (T_mxl k) as) [] σ = some (v, σ1))
    (hc : cells + (σ1.1.length - σ.1.length) ≤ R.cells) (hs : slots + (σ1.2.2.2.2 - σ.2.2.2.2) ≤ R.slots)
    (kk : ∀ (H1 : Heap) (locs1 : List Loc), am_H D b h0 cy σ1 H1 → va_S (fun q => h0 ≤ q) s.heap H1 locs1 → W p l e R s m args below meth c H1 locs1 (cells + (σ1.1.length - σ.1.length)) (slots + (σ1.2.2.2.2 - σ.2.2.2.2)) Q (F0 m (pc + 3) lsA ((v.toList ++ r).map (am_v b h0)))) : W p l e R s m args below meth c H locs cells slots Q (F0 m pc lsA (st.map (am_v b h0))) := by
  obtain ⟨hx, hb, hml, hown, hts, hini, hfr, hlo⟩ := hF
  obtain ⟨q, kd, na, ⟨p1, p2, p3, p4⟩, hcall, hle, hsum, hcase⟩ := am_ca_of h
  rw [am_toL] at kk
  have hrm : ∀ {mx mc ms : Nat}, mx ≤ 14 → (am_rm (d - 1) mc ms).frames + 1 ≤ R.frames ∧ 8 + (mx + 11) + (am_rm (d - 1) mc ms).locals ≤ R.locals := by
    intro mx mc ms hmx
    refine ⟨?_, ?_⟩
    · show d - 1 + 1 ≤ R.frames
      omega
    · show 8 + (mx + 11) + 33 * (d - 1) ≤ R.locals
      omega
  have hW : ((r.map (am_v b h0)).map fun v => v.category).sum ≤ 8 := by rw [am_cats]; exact hsum
  have hlen : (((st.take na).reverse).map (am_v b h0)).length = na := by rw [List.length_map, List.length_reverse, List.length_take, Nat.min_eq_left hle]
  have hrev : (((st.take na).reverse).map (am_v b h0)).reverse = (st.take na).map (am_v b h0) := by rw [List.map_reverse, List.reverse_reverse]
  rcases hcase with ⟨rfl, hk, has, hst⟩ | ⟨rfl, hk, y, hy, has, hst⟩ | ⟨rfl, hk, y, hy, has, hst⟩
  · have hkd : kd = 0 ∨ kd = 1 := by omega
    have hstk : st.map (am_v b h0) = (as.map (am_v b h0)).reverse ++ r.map (am_v b h0) := by
      rw [has, hrev, ← List.map_append, ← hst]
    rw [hstk]
    rcases hkd with rfl | rfl
    · obtain ⟨hj, ho, hpar, w1, w2, w3⟩ := am_okJ0 hcall
      obtain ⟨hcd, hcl, hmx, hpl, -, -, hmh⟩ := am_okM hj ho
      exact am_call (va_runS (g := F0 m pc lsA ((as.map (am_v b h0)).reverse ++ r.map (am_v b h0))) (Ts := am_gw) (own := T_R (T_own j)) (As := as.map (am_v b h0)) (rest := r.map (am_v b h0)) ⟨hx, hb, hml, hown, hts⟩ (am_met IH hj ho hfl he) ⟨callB_of na hts (am_gi hcd) rfl rfl rfl (hts _ w3) (hts _ w1) ⟨hmh.1, hmh.2, hpar⟩ (hrm hmx), hts _ w2⟩ (am_pre hU hH hS as) rfl (by rw [has]; exact hlen) hl.2.1 rfl (lv_room hW) hd ⟨hc, hs⟩) hS kk
    · obtain ⟨hj, ho, hpar, w1, w2, w3⟩ := am_okJ1 hcall
      obtain ⟨hcd, hcl, hmx, hpl, -, -, hmh⟩ := am_okM hj ho
      exact am_call (va_runSN (g := F0 m pc lsA ((as.map (am_v b h0)).reverse ++ r.map (am_v b h0))) (Ts := am_gw) (own := T_R (T_own j)) (host := "DragonJars") (As := as.map (am_v b h0)) (rest := r.map (am_v b h0)) ⟨hx, hb, hml, hown, hts⟩ (am_met IH hj ho hfl he) ⟨va_cnB na hts (am_gi hcd) rfl rfl rfl (hU.2.1 _ w1 rfl) (hts _ w3) ⟨hmh.1, hmh.2, hpar⟩ (hrm hmx), hts _ w2, trivial⟩ (am_pre hU hH hS as) rfl (by rw [has]; exact hlen) hl.2.1 rfl (lv_room hW) hd ⟨hc, hs⟩) hS kk
  · subst hk
    have hstk : st.map (am_v b h0) = (((st.take na).reverse).map (am_v b h0)).reverse ++ .ref (am_ad b h0 y) :: r.map (am_v b h0) := by
      rw [hrev]
      have := congrArg (List.map (am_v b h0)) hst
      rw [List.map_append] at this
      exact this
    rw [hstk]
    obtain ⟨hj, ho, hpar, w1, w2, w3, w4, hown2⟩ := am_okJ2 hcall
    obtain ⟨hcd, hcl, hmx, hpl, -, hRC, hmh⟩ := am_okM hj ho
    have hrc : ∃ cell : Cell, H[am_ad b h0 y]? = some cell ∧ cell.vm.isStatics = false ∧ s.vm.findClass (T_y k).cls = some cell.cls := by
      rw [am_ad_lt (am_in hy) hH.2.2, hcl, hRC hown2]
      exact va_recv hU.1 hH.1 (am_getC hown2) (q0 := y) (by rw [am_W_get (am_in hy), am_e_obj hy (am_c50 hown2)])
    have hpre := am_pre hU hH hS as
    rw [has] at hpre
    have hmet := am_met IH hj ho hfl he
    rw [has] at hmet
    exact am_call (va_runV (g := F0 m pc lsA ((((st.take na).reverse).map (am_v b h0)).reverse ++ .ref (am_ad b h0 y) :: r.map (am_v b h0))) (Ts := am_gw) (own := T_R (T_own j)) (C := (T_y k).cls) (b := am_ad b h0 y) (As := ((st.take na).reverse).map (am_v b h0)) (rest := r.map (am_v b h0)) ⟨hx, hb, hml, hown, hts⟩ hmet ⟨callB_of na hts (am_gi hcd) rfl rfl rfl (hts _ w4) (hts _ w1) ⟨hmh.1, hmh.2, hpar⟩ (hrm hmx), hts _ w2, hts _ w3⟩ ⟨hpre.1, hrc, hpre.2⟩ rfl hlen hl.2.1 rfl (lv_room hW) hd ⟨hc, hs⟩) hS kk
  · have hstk : st.map (am_v b h0) = (((st.take na).reverse).map (am_v b h0)).reverse ++ .ref (am_ad b h0 y) :: r.map (am_v b h0) := by
      rw [hrev]
      have := congrArg (List.map (am_v b h0)) hst
      rw [List.map_append] at this
      exact this
    rw [hstk]
    have hpre := am_pre hU hH hS as
    rw [has] at hpre
    rcases hk with rfl | rfl
    · obtain ⟨hj, ho, hpar, w1, w2, w3, hnm, hrt⟩ := am_okJ4 hcall
      obtain ⟨hcd, hcl, hmx, hpl, -, -, hmh⟩ := am_okM hj ho
      have hmet := am_met IH hj ho hfl he
      rw [has] at hmet
      exact am_call (va_runI (g := F0 m pc lsA ((((st.take na).reverse).map (am_v b h0)).reverse ++ .ref (am_ad b h0 y) :: r.map (am_v b h0))) (Ts := am_gw) (own := T_R (T_own j)) (b := am_ad b h0 y) (As := ((st.take na).reverse).map (am_v b h0)) (rest := r.map (am_v b h0)) ⟨hx, hb, hml, hown, hts⟩ hmet ⟨callB_of na hts (am_gi hcd) (by unfold am_ws; rw [hrt]) rfl rfl (hts _ w3) (hts _ w1) ⟨hmh.1, hmh.2, hpar⟩ (hrm hmx), hnm, hts _ w2⟩ hpre rfl hlen hl.2.1 rfl (lv_room hW) hd ⟨hc, hs⟩) hS kk
    · obtain ⟨hj, ho, hpar, w1, w2, w3, hnm, hrt⟩ := am_okJ5 hcall
      obtain ⟨hcd, hcl, hmx, hpl, -, -, hmh⟩ := am_okM hj ho
      have hmet := am_met IH hj ho hfl he
      rw [has] at hmet
      exact am_call (va_runIN (g := F0 m pc lsA ((((st.take na).reverse).map (am_v b h0)).reverse ++ .ref (am_ad b h0 y) :: r.map (am_v b h0))) (Ts := am_gw) (own := T_R (T_own j)) (host := "DragonJars") (b := am_ad b h0 y) (As := ((st.take na).reverse).map (am_v b h0)) (rest := r.map (am_v b h0)) ⟨hx, hb, hml, hown, hts⟩ hmet ⟨va_cnB na hts (am_gi hcd) (by unfold am_ws; rw [hrt]) rfl rfl (hU.2.1 _ w1 rfl) (hts _ w3) ⟨hmh.1, hmh.2, hpar⟩ (hrm hmx), hnm, hts _ w2⟩ hpre rfl hlen hl.2.1 rfl (lv_room hW) hd ⟨hc, hs⟩) hS kk
theorem am_ma_ok {d j : Nat} {i : Instr} {st st' ls : List Value} (hF : am_F p s m args meth c R j d) (hl : am_L b h0 lsA (T_mxl j) ls) (hd : decode (T_code j) pc = .ok (i, 3)) (h : am_ma (T_own j) i st = some st') (hd0 : 0 < d) (hc : cells ≤ R.cells) (hs : slots ≤ R.slots)
    (kk : W p l e R s m args below meth c H locs cells slots Q (F0 m (pc + 3) lsA (st'.map (am_v b h0)))) : W p l e R s m args below meth c H locs cells slots Q (F0 m pc lsA (st.map (am_v b h0))) := by
  obtain ⟨hx, hb, hml, hown, hts, hini, hfr, hlo⟩ := hF
  obtain ⟨q, kd, ⟨j0, n0, p1, p2, p3, p4⟩, r, hcall, rfl, hsum, hcase⟩ := am_ma_of h
  have hW : ((r.map (am_v b h0)).map fun v => v.category).sum + 13 ≤ R.locals := by rw [am_cats]; omega
  have hm : c.maxLocals = lsA.size := hml.trans hl.2.1.symm
  rcases hcase with ⟨rfl, x, y, rfl, rfl⟩ | ⟨rfl, x, y, rfl, rfl⟩ | ⟨rfl, x, rfl, rfl⟩
  · obtain ⟨w1, w2, w3, w4⟩ := am_okJ7 hcall
    exact va_mmax hx hb hm hown (hts _ w1) (hts _ w2) (hts _ w3) (hts _ w4) (by omega) hW hc hs hd kk
  · obtain ⟨w1, w2, w3, w4⟩ := am_okJ8 hcall
    exact va_mmin hx hb hm hown (hts _ w1) (hts _ w2) (hts _ w3) (hts _ w4) (by omega) hW hc hs hd kk
  · obtain ⟨w1, w2, w3, w4⟩ := am_okJ9 hcall
    exact va_mabs hx hb hm hown (hts _ w1) (hts _ w2) (hts _ w3) (hts _ w4) (by omega) hW hc hs hd kk
end AMJ
theorem am_wr_len {o ini n : Nat} {i : Instr} {st st' : List Value} {σ σ' : am_M} (h : am_wr o ini i st σ = some (n, st', σ')) : σ'.1 = σ.1 ∧ σ'.2.2.2.2 = σ.2.2.2.2 := by
  unfold am_wr at h
  split at h
  · split at h
    · split at h
      · split at h
        · obtain ⟨σ1, hp, h2⟩ := Option.map_eq_some_iff.mp h
          cases h2
          exact ⟨(am_pf_of hp).1, (am_pf_of hp).2.1⟩
        · cases h
      · cases h
    · cases h
  · split at h
    · split at h
      · split at h
        · cases h; exact ⟨rfl, rfl⟩
        · cases h
      · cases h
    · cases h
  · split at h
    · split at h
      · split at h
        · cases h; exact ⟨rfl, rfl⟩
        · cases h
      · cases h
    · cases h
  · split at h
    · split at h
      · split at h
        · cases h; exact ⟨rfl, rfl⟩
        · cases h
      · cases h
    · cases h
  · cases h
theorem am_mk_ge {σ : am_M} {c n : Nat} : σ.1.length ≤ (am_mk σ c n).1.length ∧ σ.2.2.2.2 ≤ (am_mk σ c n).2.2.2.2 := ⟨by rw [am_mk_len]; omega, Nat.le_add_right _ _⟩
theorem am_al_len {o n : Nat} {i : Instr} {st st' : List Value} {σ σ' : am_M} (h : am_al o i st σ = some (n, st', σ')) : σ.1.length ≤ σ'.1.length ∧ σ.2.2.2.2 ≤ σ'.2.2.2.2 := by
  unfold am_al at h
  split at h
  · split at h
    · split at h
      · cases h; exact am_mk_ge
      · cases h
    · cases h
  · split at h
    · split at h
      · split at h
        · cases h; exact am_mk_ge
        · cases h; exact am_mk_ge
        · cases h
      · cases h
    · cases h
  · split at h
    · split at h
      · split at h
        · cases h; exact am_mk_ge
        · cases h
      · cases h
    · cases h
  · cases h
set_option maxHeartbeats 4000000 in
theorem am_mono (X : am_X) : ∀ (n d j pc : Nat) (ls st : List Value) (σ : am_M) (v : Option Value) (σ' : am_M), am_ev X n d j pc ls st σ = some (v, σ') → σ.1.length ≤ σ'.1.length ∧ σ.2.2.2.2 ≤ σ'.2.2.2.2 := by
  intro n
  induction n with
  | zero => intro d j pc ls st σ v σ' h; exact absurd h (by intro z; cases z)
  | succ n IH =>
    intro d j pc ls st σ v σ' h
    have h : am_one X (am_ev X n) d j pc ls st σ = some (v, σ') := h
    unfold am_one at h
    split at h
    · cases h
    · split at h
      · split at h
        · exact IH _ _ _ _ _ _ _ _ h
        · cases h
      · split at h
        · split at h
          · split at h
            · exact IH _ _ _ _ _ _ _ _ h
            · exact IH _ _ _ _ _ _ _ _ h
          · cases h
        · split at h
          · split at h
            · exact IH _ _ _ _ _ _ _ _ h
            · cases h
          · split at h
            · split at h
              · exact IH _ _ _ _ _ _ _ _ h
              · cases h
            · split at h
              · rename_i hw
                split at h
                · have h1 := IH _ _ _ _ _ _ _ _ h
                  rw [(am_wr_len hw).1, (am_wr_len hw).2] at h1
                  exact h1
                · cases h
              · split at h
                · rename_i ha
                  split at h
                  · have h1 := IH _ _ _ _ _ _ _ _ h
                    have h2 := am_al_len ha
                    exact ⟨Nat.le_trans h2.1 h1.1, Nat.le_trans h2.2 h1.2⟩
                  · cases h
                · split at h
                  · split at h
                    · split at h
                      · rename_i he
                        have h1 := IH _ _ _ _ _ _ _ _ h
                        have h2 := IH _ _ _ _ _ _ _ _ he
                        exact ⟨Nat.le_trans h2.1 h1.1, Nat.le_trans h2.2 h1.2⟩
                      · cases h
                    · cases h
                  · split at h
                    · exact IH _ _ _ _ _ _ _ _ h
                    · cases h
                  · split at h
                    · split at h
                      · exact IH _ _ _ _ _ _ _ _ h
                      · cases h
                    · split at h
                      · obtain ⟨w, h1, h2⟩ := Option.map_eq_some_iff.mp h
                        cases h2
                        exact ⟨Nat.le_refl _, Nat.le_refl _⟩
                      · cases h
set_option maxHeartbeats 4000000 in
theorem am_snd (l : Launch) (D : va_G) (b h0 : Nat) (cy : Nat → ClassId) (X : am_X) : ∀ n, am_Snd l D b h0 cy X n := by
  intro n
  induction n with
  | zero => intro d j pc ls st σ v σ' h; exact absurd h (by intro z; cases z)
  | succ n IH =>
    intro d j pc ls st σ v σ' h p e R s m args below meth c H locs cells slots Q lsA hF hU hH hS hl hc hsl hend
    obtain ⟨hx, hb, hml, hown, hts, hini, hfr, hlo⟩ := id hF
    have h : am_one X (am_ev X n) d j pc ls st σ = some (v, σ') := h
    unfold am_one at h
    split at h
    · cases h
    · rename_i i len hi
      have hd := am_di hi
      split at h
      · rename_i L ls' st' hp
        split at h
        · rename_i hL
          subst hL
          exact am_pi_ok hx hb hown hts hd hp hl (fun lsA' hl' => IH _ _ _ _ _ _ _ _ h p e R s m args below meth c H locs cells slots Q lsA' hF hU hH hS hl' hc hsl hend)
        · cases h
      · split at h
        · rename_i cnd off st' hp
          split at h
          · rename_i hL
            obtain ⟨rfl, hge⟩ := hL
            have ht : (pc : Int) + off = ((((pc : Int) + off).toNat : Nat) : Int) := (Int.toNat_of_nonneg hge).symm
            refine am_bi_ok hx hb hd hp ht (fun hcn => ?_) (fun hcn => ?_)
            · rw [if_pos hcn] at h
              exact IH _ _ _ _ _ _ _ _ h p e R s m args below meth c H locs cells slots Q lsA hF hU hH hS hl hc hsl hend
            · rw [if_neg (by rw [hcn]; decide)] at h
              exact IH _ _ _ _ _ _ _ _ h p e R s m args below meth c H locs cells slots Q lsA hF hU hH hS hl hc hsl hend
          · cases h
        · split at h
          · rename_i off st' hp
            split at h
            · rename_i hge
              have ht : (pc : Int) + off = ((((pc : Int) + off).toNat : Nat) : Int) := (Int.toNat_of_nonneg hge).symm
              exact am_sw_ok hx hb hd hp ht (IH _ _ _ _ _ _ _ _ h p e R s m args below meth c H locs cells slots Q lsA hF hU hH hS hl hc hsl hend)
            · cases h
          · split at h
            · rename_i L st' hp
              split at h
              · rename_i hL
                subst hL
                exact am_rd_ok hx hb hown hts hU hH hS hd hp (IH _ _ _ _ _ _ _ _ h p e R s m args below meth c H locs cells slots Q lsA hF hU hH hS hl hc hsl hend)
              · cases h
            · split at h
              · rename_i L st' σ1 hp
                split at h
                · rename_i hL
                  subst hL
                  obtain ⟨g1, g2⟩ := am_wr_len hp
                  refine am_wr_ok hx hb hown hini hts hU hH hS hd hp (fun H1 locs1 hH1 hS1 => ?_)
                  exact IH _ _ _ _ _ _ _ _ h p e R s m args below meth c H1 locs1 cells slots Q lsA hF hU hH1 hS1 hl (by rw [g1]; exact hc) (by rw [g2]; exact hsl) (by rw [g1, g2]; exact hend)
                · cases h
              · split at h
                · rename_i L st' σ1 hp
                  split at h
                  · rename_i hL
                    subst hL
                    obtain ⟨g1, g2⟩ := am_al_len hp
                    obtain ⟨g3, g4⟩ := am_mono X _ _ _ _ _ _ _ _ _ h
                    have e1 : cells + (σ1.1.length - σ.1.length) + (σ'.1.length - σ1.1.length) = cells + (σ'.1.length - σ.1.length) := by omega
                    have e2 : slots + (σ1.2.2.2.2 - σ.2.2.2.2) + (σ'.2.2.2.2 - σ1.2.2.2.2) = slots + (σ'.2.2.2.2 - σ.2.2.2.2) := by omega
                    refine am_al_ok hx hb hown hts hU hH hS hd hp (by omega) (by omega) (fun H1 hH1 hS1 => ?_)
                    exact IH _ _ _ _ _ _ _ _ h p e R s m args below meth c H1 locs _ _ Q lsA hF hU hH1 hS1 hl (by rw [e1]; exact hc) (by rw [e2]; exact hsl) (by rw [e1, e2]; exact hend)
                  · cases h
                · split at h
                  · rename_i k as r hp
                    split at h
                    · rename_i hL
                      obtain ⟨rfl, hd0, hfl⟩ := hL
                      split at h
                      · rename_i w σ1 he
                        obtain ⟨g1, g2⟩ := am_mono X _ _ _ _ _ _ _ _ _ he
                        obtain ⟨g3, g4⟩ := am_mono X _ _ _ _ _ _ _ _ _ h
                        have e1 : cells + (σ1.1.length - σ.1.length) + (σ'.1.length - σ1.1.length) = cells + (σ'.1.length - σ.1.length) := by omega
                        have e2 : slots + (σ1.2.2.2.2 - σ.2.2.2.2) + (σ'.2.2.2.2 - σ1.2.2.2.2) = slots + (σ'.2.2.2.2 - σ.2.2.2.2) := by omega
                        refine am_ca_ok IH hF hU hH hS hl hd hp hd0 hfl he (by omega) (by omega) (fun H1 locs1 hH1 hS1 => ?_)
                        exact IH _ _ _ _ _ _ _ _ h p e R s m args below meth c H1 locs1 _ _ Q lsA hF hU hH1 hS1 hl (by rw [e1]; exact hc) (by rw [e2]; exact hsl) (by rw [e1, e2]; exact hend)
                      · cases h
                    · cases h
                  · rename_i r hp
                    split at h
                    · rename_i hL
                      have h9 := h
                      obtain ⟨rfl, hd0⟩ := hL
                      obtain ⟨q, ⟨j6, n6, p1, p2, p3, p4⟩, y, hcall, rfl, rfl, hsum⟩ := am_ca_ini hp
                      obtain ⟨w1, w2, w3⟩ := am_okJ6 hcall
                      refine W.objInit hx hb hown (hts _ w1) (hts _ w2) (hts _ w3) rfl (hl.2.1.trans hml.symm) rfl hd (by omega) ?_ ?_
                      · have := am_cats b h0 r
                        show 2 * 0 + ((r.map (am_v b h0)).map fun v => v.category).sum + 12 ≤ R.locals
                        omega
                      · exact IH _ _ _ _ _ _ _ _ h9 p e R s m args below meth c H locs cells slots Q lsA hF hU hH hS hl hc hsl hend
                    · cases h
                  · split at h
                    · rename_i st' hp
                      split at h
                      · rename_i hL
                        obtain ⟨rfl, hd0⟩ := hL
                        have k := IH _ _ _ _ _ _ _ _ h p e R s m args below meth c H locs cells slots Q lsA hF hU hH hS hl hc hsl hend
                        exact am_ma_ok hF hl hd hp hd0 (by omega) (by omega) k
                      · cases h
                    · split at h
                      · rename_i hL
                        subst hL
                        obtain ⟨w, h1, h2⟩ := Option.map_eq_some_iff.mp h
                        cases h2
                        have hz := hend pc i st lsA H locs hi h1 hH hS
                        rw [Nat.sub_self, Nat.sub_self, Nat.add_zero, Nat.add_zero] at hz
                        exact hz
                      · cases h
