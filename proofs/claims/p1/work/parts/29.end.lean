/-! P1: THE WHOLE -/
theorem p1_made : ∃ (σ1 : am_M) (I : Nat → Nat → Int32) (J : Nat → Nat → Int64), am_ev none 4000 9 76 0 [.ref 0, am_uv] [] (am_mk am_00 9 9) = some (none, σ1) ∧ σ1.1.length = 105 ∧ σ1.2.2.2.1.length = 105 ∧ am_ev none 4000 9 140 0 [.ref 105] [] (am_mk σ1 10 58) = some (none, am_N I J) ∧ ∀ q ∈ am_facts, I q.1 q.2.1 = q.2.2 := by
  obtain ⟨σ1, h1, h2, h3, -, -⟩ := am_chk_of am_try1
  obtain ⟨⟨K, I, J, P, sl⟩, g1, g2, g3, g4, g5⟩ := am_chk_of am_try2
  have e1 : am_ev none 4000 9 76 0 [.ref 0, am_uv] [] (am_mk am_00 9 9) = some (none, σ1) := h1
  have e2 : am_ev none 4000 9 140 0 [.ref 105] [] (am_mk σ1 10 58) = some (none, (K, I, J, P, sl)) := by
    unfold am_run2 at g1
    rw [h1] at g1
    exact g1
  have hK : K = am_K0 := g2
  have hP : P = am_P0 := g3
  have hs : sl = 16887 := g4
  subst hK
  subst hP
  subst hs
  exact ⟨σ1, I, J, e1, by rw [h2]; decide +kernel, by rw [h3]; decide +kernel, e2, g5⟩
theorem p1_start {X : am_X} {Q : Option Value → am_M → Prop} (k : ∀ I J, p1_A I → p1_B I → am_wp X 10 231 18 [.ref am_scr, .ref 0, .ref 105, .int 0] [] (am_N I J) Q) : am_wp X 10 231 0 [.ref am_scr, am_uv, am_uv, am_uv] [] am_00 Q := by
  obtain ⟨σ1, I, J, h1, h2, h3, h4, h5⟩ := p1_made
  have hA : p1_A I := by
    refine ⟨h5 (1, 1, 0) (by decide +kernel), h5 (35, 2, 0) (by decide +kernel), h5 (91, 4, 0) (by decide +kernel), h5 (83, 5, 0) (by decide +kernel), h5 (87, 1, 0) (by decide +kernel), h5 (88, 1, 0) (by decide +kernel), h5 (0, 7, 0) (by decide +kernel), h5 (0, 8, 0) (by decide +kernel), fun q hq => ?_⟩
    have : q = 0 ∨ q = 1 ∨ q = 2 ∨ q = 3 := by omega
    rcases this with rfl | rfl | rfl | rfl
    · exact h5 (97, 1, 0) (by decide +kernel)
    · exact h5 (99, 1, 0) (by decide +kernel)
    · exact h5 (101, 1, 0) (by decide +kernel)
    · exact h5 (103, 1, 0) (by decide +kernel)
  have hB : p1_B I := by
    refine ⟨h5 (105, 0, 0) (by decide +kernel), h5 (105, 1, 0) (by decide +kernel), h5 (105, 2, 0) (by decide +kernel), h5 (105, 21, 0) (by decide +kernel), h5 (105, 26, 0) (by decide +kernel), fun q hq => ?_⟩
    have : q = 0 ∨ q = 1 ∨ q = 2 ∨ q = 3 := by omega
    rcases this with rfl | rfl | rfl | rfl
    · exact h5 (121, 0, -9) (by decide +kernel)
    · exact h5 (121, 1, -9) (by decide +kernel)
    · exact h5 (121, 2, -9) (by decide +kernel)
    · exact h5 (121, 3, -9) (by decide +kernel)
  refine Eq.mpr (am_wp_al (i := .new 7) (len := 3) (st' := [.ref 0]) (σ' := am_mk am_00 9 9) (by decide +kernel) rfl rfl rfl rfl rfl (by rfl)) ?_
  refine Eq.mpr (r_dup (pc := 3) (by decide +kernel) rfl) ?_
  obtain ⟨pp, hc⟩ := am_tce (o := T_own 231) (k := 9) (kd := 4) (m := 76) (n := 0) (by decide +kernel)
  refine Eq.mpr (r_ci (d := 9) (pc := 4) (k := 9) (kd := 4) (m := 76) (n := 0) (a := 0) (as := []) (r := [.ref 0]) (by decide +kernel) hc (Or.inl rfl) rfl rfl (Nat.zero_le _) (by decide) (by decide) (by decide +kernel)) ?_
  refine ⟨4000, none, σ1, ?_, ?_⟩
  · exact am_evX X 4000 9 76 0 _ _ _ _ h1
  refine am_aft0 ?_
  refine g_asn (i := 1) (pc := 7) (by decide +kernel) (by decide) (Or.inr rfl) rfl ?_
  refine Eq.mpr (am_wp_al (i := .new 10) (pc := 8) (len := 3) (st' := [.ref 105]) (σ' := am_mk σ1 10 58) (by decide +kernel) rfl rfl rfl rfl rfl ?_) ?_
  · have hn : T_new (T_own 231) 10 = some (10, (T_new (T_own 231) 10).get (by decide +kernel) |>.2) := by decide +kernel
    unfold am_al
    dsimp only
    rw [hn]
    show (if σ1.1.length < am_scr ∧ σ1.2.2.2.1.length = σ1.1.length then some (3, Value.ref σ1.1.length :: [], am_mk σ1 10 (am_nf 10)) else none) = _
    rw [h2, h3, if_pos (by decide)]
    rfl
  refine Eq.mpr (r_dup (pc := 11) (by decide +kernel) rfl) ?_
  obtain ⟨pp2, hc2⟩ := am_tce (o := T_own 231) (k := 12) (kd := 4) (m := 140) (n := 0) (by decide +kernel)
  refine Eq.mpr (r_ci (d := 9) (pc := 12) (k := 12) (kd := 4) (m := 140) (n := 0) (a := 105) (as := []) (r := [.ref 105]) (by decide +kernel) hc2 (Or.inl rfl) rfl rfl (Nat.zero_le _) (by decide) (by decide) (by decide +kernel)) ?_
  refine ⟨4000, none, am_N I J, ?_, ?_⟩
  · exact am_evX X 4000 9 140 0 _ _ _ _ h4
  refine am_aft0 ?_
  refine g_asn (i := 2) (pc := 15) (by decide +kernel) (by decide) (Or.inr rfl) rfl ?_
  refine Eq.mpr (r_ic (z := 0) (v := 0) (pc := 16) (by decide +kernel) (by decide +kernel)) ?_
  refine g_isn (i := 3) (pc := 17) (by decide +kernel) (by decide) (Or.inr rfl) rfl ?_
  exact k I J hA hB
theorem p1_len : am_K0.length ≤ 600000 := by decide +kernel
theorem p1_law {L : Nat} {xs : Nat → Int32} (hL : L ≤ 8) : am_wp (some (L, xs)) 10 231 0 [.ref am_scr, am_uv, am_uv, am_uv] [] am_00 (fun v σ' => v = some (.int 1) ∧ σ'.1.length ≤ 600000 ∧ σ'.2.2.2.2 ≤ 7302250) := by
  refine p1_start fun I J hA hB => ?_
  have hend : ∀ (I J) (x : Int32), Int32.ofNat L - 8 < x → am_wp (some (L, xs)) 10 231 18 [.ref am_scr, .ref 0, .ref 105, .int x] [] (am_N I J) (fun v σ' => v = some (.int 1) ∧ σ'.1.length ≤ 600000 ∧ σ'.2.2.2.2 ≤ 7302250) := fun I J x hx => c_lawend (d := 2) (Y := (L, xs)) rfl ⟨hx, rfl, p1_len, by show 16887 ≤ 7302250; decide⟩
  by_cases h8 : L = 8
  · subst h8
    have he : ∀ I J, am_wp (some (8, xs)) 10 231 18 [.ref am_scr, .ref 0, .ref 105, .int (0 + 8)] [] (am_N I J) (fun v σ' => v = some (.int 1) ∧ σ'.1.length ≤ 600000 ∧ σ'.2.2.2.2 ≤ 7302250) := fun I J => hend I J _ (by decide)
    have x0 : am_ix 0 8 := oi_ix (a := 0) (by decide) (by decide) (by decide)
    have x1 : am_ix (0 + 1) 8 := oi_ix (a := 1) (by decide) (by decide) (by decide)
    have x2 : am_ix (0 + 2) 8 := oi_ix (a := 2) (by decide) (by decide) (by decide)
    have x3 : am_ix (0 + 3) 8 := oi_ix (a := 3) (by decide) (by decide) (by decide)
    have x4 : am_ix (0 + 4) 8 := oi_ix (a := 4) (by decide) (by decide) (by decide)
    have x5 : am_ix (0 + 5) 8 := oi_ix (a := 5) (by decide) (by decide) (by decide)
    have x6 : am_ix (0 + 6) 8 := oi_ix (a := 6) (by decide) (by decide) (by decide)
    have x7 : am_ix (0 + 7) 8 := oi_ix (a := 7) (by decide) (by decide) (by decide)
    have hl : lg_cmp (-9223372036854775808) (-9223372036854775808) = 0 := by decide
    refine c_law (d := 2) (Y := (8, xs)) rfl hA hB ⟨fun h => absurd h (show ¬ Int32.ofNat 8 - 8 < 0 by decide), fun _ => ⟨x0, ?_⟩⟩
    repeat' (first | with_reducible exact he _ _ | with_reducible exact x1 | with_reducible exact x2 | with_reducible exact x3 | with_reducible exact x4 | with_reducible exact x5 | with_reducible exact x6 | with_reducible exact x7 | with_reducible exact hl | with_reducible apply And.intro | intro _)
  · refine hend I J 0 ?_
    rw [oi_nat, show (8 : Int32) = Int32.ofInt 8 from rfl, oi_sub]
    show _ < Int32.ofInt 0
    rw [oi_lt (by omega) (by omega)]
    omega
theorem whole_start {p : Program} {e : Env} {s : State} {m : MethodId} {below : List Frame} {meth : Method} {c : Code} (l : Launch) {b L : Nat} {xs : Nat → Int32} (hL : L ≤ 8) (C0 : lw_At p s m meth c b L xs) : W p l e room_1 s m #[Value.ref b] below meth c s.heap [] 0 0 (lw_Z below #[Value.ref b] s) (entryFrame m ([Value.ref b] : List Value).toArray 4) := am_start l C0 (p1_law hL)
set_option maxHeartbeats 4000000 in
theorem lw_walk (l : Launch) (b : Addr) (xs : List Int32) : MetFree l x (headSpec (Jvm.Cond.code x code maxLocals ret :: tables_1) room_1) (lw_P b xs) (fun _ _ _ _ _ => True) lw_Q := by
  refine MetFree.of_bodyS (code := code) (maxLocals := maxLocals) (ret := ret) (by decide) ?_ ?_
  · intro args s m h hn
    obtain ⟨meth, c, h1, h2, h3, h4, h5, h6, -, -⟩ := Cond.code_spec hn (atoms_spec (ws := Jvm.Cond.code x code maxLocals ret :: tables_1) h _ List.mem_cons_self)
    exact ⟨meth, c, h1, h2, h3, h4, h5, h6⟩
  · intro p e s m args below meth c s₁ B hml0 hP _
    obtain ⟨rfl, hx, hbd, hgv⟩ := hP
    obtain ⟨scr, harrAt, hlist, hof, hsmall⟩ := hx
    obtain ⟨hcb, hkn, -, -⟩ := State.arrayAt?_spec harrAt
    have hown : s.vm.findClass R_law = some m.cls := findClass_of_methodNamed B.named
    have hts0 : ∀ c ∈ (Jvm.Cond.code x code maxLocals ret :: tables_1), c.before #[Value.ref b] s = true := atoms_spec (ws := Jvm.Cond.code x code maxLocals ret :: tables_1) B.pre
    have hts : ∀ w ∈ lw_tbl, w.before #[Value.ref b] s = true := k2_hts_sels lw_privs (fun w hw => hts0 w (List.mem_cons_of_mem _ hw)) lw_privs_ok
    have hml : c.maxLocals = 4 := B.maxLocals_eq (hts0 _ List.mem_cons_self)
    have X₀ : Stand p l e room_1 s m #[Value.ref b] below meth c s₁ [] 0 0 := Stand.of_body B
    have hh0 : s₁.heap = s.heap := by rw [B.state]; rfl
    have hsz : scr.slots.size = xs.length := by rw [← Array.length_toList, hlist, List.length_map]
    have hval : ∀ j : Nat, j < xs.length → scr.slots[j]? = some (.int (xs.getD j 0)) := fun j hj => by
      rw [← Array.getElem?_toList, hlist]
      simp [hj]
    have hbl : b < s.heap.size := (Array.getElem?_eq_some_iff.mp hcb).1
    have hX : va_X b xs.length (fun j => xs.getD j 0) s s.heap := ⟨scr, hcb, hof, hkn, hsz, hval⟩
    have K : W p l e room_1 s m #[Value.ref b] below meth c s₁.heap [] 0 0 (lw_Z below #[Value.ref b] s) (entryFrame m ([Value.ref b] : List Value).toArray 4) := by
      rw [hh0]
      exact whole_start l hbd ⟨B.exec, B.bytes, B.returns, hml, hown, hts, hX, hbl, B.notSynchronized, hgv⟩
    obtain ⟨t, a1, o, b1, b2, b3⟩ := K s₁ rfl X₀
    exact ⟨t, o, a1, b1, b2, b3⟩
theorem lw_pre_spec {args : Array Value} {s : State} (h : (Jvm.Cond.and given_1 narrow_1).before args s = true) (hr : rest_1_c.before args s = true) : ∃ (b : Addr) (xs : List Int32), lw_P b xs args s := by
  have hs := flat_of_before _ h
  have hq := flat_of_before _ hr
  have hc : (Cond.count 1).before args s = true := hs _ (by decide +kernel)
  have harr : (Cond.arrayOf (.arg 0) .int).before args s = true := hs _ (by decide +kernel)
  have hle : (Cond.le (.length (.arg 0)) (.int 8)).before args s = true := hs _ (by decide +kernel)
  have hlen : (Cond.isInt (.length (.arg 0))).before args s = true := hq _ (by decide +kernel)
  have hall : (Cond.all (.arg 0) (.isInt (.elem (.arg 0) (.index 0)))).before args s = true := hq _ (by decide +kernel)
  obtain ⟨b, xs, hb, hx⟩ := State.ints_of_pre rfl harr hlen hall
  have hsm : xs.length < 2 ^ 31 := hx.choose_spec.2.2.2
  have hev : (Term.length (.arg 0)).eval args s none [] s = some (.int xs.length.toInt32) := hx.length_eval hb
  have hv := Cond.le_ints hev (show (Term.int 8).eval args s none [] s = some (.int 8) from rfl)
  have hd : xs.length.toInt32 ≤ 8 := by
    simpa [Cond.before, Cond.holds, hv] using hle
  have hN : xs.length ≤ 8 := (Int32.ofNat_le_ofNat hsm (by decide)).mp (show Int32.ofNat xs.length ≤ Int32.ofNat 8 from hd)
  exact ⟨b, xs, Cond.one_arg hc (show args[0]? = some (.ref b) from hb), hx, hN, h⟩
theorem lw_comes (l : Launch) : Comes l x (Jvm.Cond.code x code maxLocals ret :: tables_1) room_1 (fun tb e args s => Calls_1 tb e args s ∧ rest_1 tb e args s ∧ Pre_1 tb e args s)
    (fun _ _ args s o t => lw_Q args s o t) := by
  intro p e ha hc hk s m args below hf hfit hheap happ hpre
  obtain ⟨b, xs, hP⟩ := lw_pre_spec hpre.2.2 hpre.2.1
  obtain ⟨k, o, h1, h2, h3, hQ⟩ := lw_walk l b xs p e ha hc hk s m args below hf ((Spec.applies_iff_loose hf).mp happ).1 hP trivial
  exact ⟨k, o, h1, h2, h3, hQ⟩
theorem lw_frame {s t : State} {o : Outcome} {args : Array Value} (h : Framed s o t [] 600000 7302250) :
    Framed s o t (fieldLocs frame_1_writes args s ++ arrayLocs frame_1_arrays args s ++ staticLocs frame_1_statics s) 600000 7302250 := h
theorem lw_limb (L : Cond) (hL : ∀ (args : Array Value) (s t : State), L.after args s (.returned (some (.int 1))) t = true) :
    ArmFor flags0 classFile x code maxLocals ret World_1 tables_1 room_1 Calls_1 rest_1 Pre_1
      (fun tb e a s o t => postC L tb e a s o t ∧ Framed s o t (fieldLocs frame_1_writes a s ++ arrayLocs frame_1_arrays a s ++ staticLocs frame_1_statics s) 600000 7302250) := by
  intro l _ _ _ p e ha hc hk s m args below hf hfit hheap happ hpre
  obtain ⟨k, o, h1, h2, h3, rfl, hF⟩ := lw_comes l p e ha hc hk s m args below hf hfit hheap happ hpre
  exact ⟨k, _, h1, h2, h3, hL args s _, lw_frame hF⟩
theorem i_vc : Claimed_1_1 ∧ Claimed_1_2 := ⟨lw_limb limb_1_1 (fun args s t => by simp [limb_1_1, Cond.after, Cond.holds, Cond.value]), lw_limb limb_1_2 (fun args s t => Cond.after_iff.mpr (by
  first | (rw [show limb_1_2 = Cond.eq .result (.int 1) from rfl, Cond.eq_ints (x := 1) (y := 1) rfl rfl]; simp; done) | (simp [limb_1_2, Cond.value, Term.eval]; done)))⟩
