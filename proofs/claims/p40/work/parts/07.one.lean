/-! ONE INSTRUCTION: if the abstract machine does it, the machine does -/
theorem am_ldi_of {ls ls' st st' : List Value} {i n n' : Nat} (h : am_ldi ls i n st = some (n', ls', st')) : ∃ x, ls.getD i am_uv = .int x ∧ n' = n ∧ ls' = ls ∧ st' = .int x :: st := by
  unfold am_ldi at h
  split at h
  · rename_i x hx; cases h; exact ⟨x, hx, rfl, rfl, rfl⟩
  · cases h
theorem am_ldl_of {ls ls' st st' : List Value} {i n n' : Nat} (h : am_ldl ls i n st = some (n', ls', st')) : ∃ x, ls.getD i am_uv = .long x ∧ n' = n ∧ ls' = ls ∧ st' = .long x :: st := by
  unfold am_ldl at h
  split at h
  · rename_i x hx; cases h; exact ⟨x, hx, rfl, rfl, rfl⟩
  · cases h
theorem am_lda_of {ls ls' st st' : List Value} {i n n' : Nat} (h : am_lda ls i n st = some (n', ls', st')) : n' = n ∧ ls' = ls ∧ ((∃ x, ls.getD i am_uv = .ref x ∧ st' = .ref x :: st) ∨ (ls.getD i am_uv = .null ∧ st' = .null :: st)) := by
  unfold am_lda at h
  split at h
  · rename_i x hx; cases h; exact ⟨rfl, rfl, Or.inl ⟨x, hx, rfl⟩⟩
  · rename_i hx; cases h; exact ⟨rfl, rfl, Or.inr ⟨hx, rfl⟩⟩
  · cases h
theorem am_sti_of {ls ls' st st' : List Value} {i n n' : Nat} (h : am_sti ls i n st = some (n', ls', st')) : ∃ x, st = .int x :: st' ∧ n' = n ∧ am_s1 ls i (.int x) = some ls' := by
  unfold am_sti at h
  split at h
  · rename_i x r
    obtain ⟨l, h1, h2⟩ := Option.map_eq_some_iff.mp h
    cases h2
    exact ⟨x, rfl, rfl, h1⟩
  · cases h
theorem am_stl_of {ls ls' st st' : List Value} {i n n' : Nat} (h : am_stl ls i n st = some (n', ls', st')) : ∃ x, st = .long x :: st' ∧ n' = n ∧ am_s2 ls i (.long x) = some ls' := by
  unfold am_stl at h
  split at h
  · rename_i x r
    obtain ⟨l, h1, h2⟩ := Option.map_eq_some_iff.mp h
    cases h2
    exact ⟨x, rfl, rfl, h1⟩
  · cases h
theorem am_sta_of {ls ls' st st' : List Value} {i n n' : Nat} (h : am_sta ls i n st = some (n', ls', st')) : n' = n ∧ ((∃ x, st = .ref x :: st' ∧ am_s1 ls i (.ref x) = some ls') ∨ (st = .null :: st' ∧ am_s1 ls i .null = some ls')) := by
  unfold am_sta at h
  split at h
  · rename_i x r
    obtain ⟨l, h1, h2⟩ := Option.map_eq_some_iff.mp h
    cases h2
    exact ⟨rfl, Or.inl ⟨x, rfl, h1⟩⟩
  · rename_i r
    obtain ⟨l, h1, h2⟩ := Option.map_eq_some_iff.mp h
    cases h2
    exact ⟨rfl, Or.inr ⟨rfl, h1⟩⟩
  · cases h
theorem am_inc_of {ls ls' st st' : List Value} {i n' : Nat} {c : Int} (h : am_inc ls i c st = some (n', ls', st')) : ∃ x, ls.getD i am_uv = .int x ∧ n' = 3 ∧ st' = st ∧ am_s1 ls i (.int (x + Int32.ofInt c)) = some ls' := by
  unfold am_inc at h
  split at h
  · rename_i x hx
    obtain ⟨l, h1, h2⟩ := Option.map_eq_some_iff.mp h
    cases h2
    exact ⟨x, hx, rfl, rfl, h1⟩
  · cases h
theorem am_i2_of {f : Int32 → Int32 → Int32} {ls ls' st st' : List Value} {n' : Nat} (h : am_i2 f ls st = some (n', ls', st')) : ∃ x y r, st = .int y :: .int x :: r ∧ n' = 1 ∧ ls' = ls ∧ st' = .int (f x y) :: r := by
  unfold am_i2 at h
  split at h
  · cases h; exact ⟨_, _, _, rfl, rfl, rfl, rfl⟩
  · cases h
theorem am_i2n_of {f : Int32 → Int32 → Int32} {ls ls' st st' : List Value} {n' : Nat} (h : am_i2n f ls st = some (n', ls', st')) : ∃ x y r, st = .int y :: .int x :: r ∧ ¬ y = 0 ∧ n' = 1 ∧ ls' = ls ∧ st' = .int (f x y) :: r := by
  unfold am_i2n at h
  split at h
  · split at h
    · cases h
    · rename_i hy; cases h; exact ⟨_, _, _, rfl, hy, rfl, rfl, rfl⟩
  · cases h
theorem am_i1_of {f : Int32 → Value} {ls ls' st st' : List Value} {n' : Nat} (h : am_i1 f ls st = some (n', ls', st')) : ∃ x r, st = .int x :: r ∧ n' = 1 ∧ ls' = ls ∧ st' = f x :: r := by
  unfold am_i1 at h
  split at h
  · cases h; exact ⟨_, _, rfl, rfl, rfl, rfl⟩
  · cases h
theorem am_l2_of {f : Int64 → Int64 → Value} {ls ls' st st' : List Value} {n' : Nat} (h : am_l2 f ls st = some (n', ls', st')) : ∃ x y r, st = .long y :: .long x :: r ∧ n' = 1 ∧ ls' = ls ∧ st' = f x y :: r := by
  unfold am_l2 at h
  split at h
  · cases h; exact ⟨_, _, _, rfl, rfl, rfl, rfl⟩
  · cases h
theorem am_l1_of {f : Int64 → Value} {ls ls' st st' : List Value} {n' : Nat} (h : am_l1 f ls st = some (n', ls', st')) : ∃ x r, st = .long x :: r ∧ n' = 1 ∧ ls' = ls ∧ st' = f x :: r := by
  unfold am_l1 at h
  split at h
  · cases h; exact ⟨_, _, rfl, rfl, rfl, rfl⟩
  · cases h
theorem am_li_of {f : Int64 → Int32 → Int64} {ls ls' st st' : List Value} {n' : Nat} (h : am_li f ls st = some (n', ls', st')) : ∃ x y r, st = .int y :: .long x :: r ∧ n' = 1 ∧ ls' = ls ∧ st' = .long (f x y) :: r := by
  unfold am_li at h
  split at h
  · cases h; exact ⟨_, _, _, rfl, rfl, rfl, rfl⟩
  · cases h
theorem am_no {r : Value} (h : (∃ x, r = .int x) ∨ (∃ x, r = .long x) ∨ (∃ x, r = .ref x) ∨ r = .null) : ∀ q, r ≠ .retAddr q := by
  intro q hq
  rcases h with ⟨x, e⟩ | ⟨x, e⟩ | ⟨x, e⟩ | e <;> rw [e] at hq <;> cases hq
section AMI
variable {p : Program} {l : Launch} {e : Env} {R : Room} {s : State} {m : MethodId} {args : Array Value} {below : List Frame} {meth : Method} {c : Code} {H : Heap} {locs : List Loc} {cells slots : Nat} {Q : State → Prop}
variable {cc : ByteArray} {pc : Nat} {lsA : Array Slot} {b h0 : Nat}
set_option maxHeartbeats 4000000 in
theorem am_pi_ok (hx : p.tables.exec = Jvm.exec) (hb : c.code = cc) {o : Nat} (hown : s.vm.findClass (T_R o) = some m.cls) (hts : ∀ w ∈ am_gw, w.before args s = true) {i : Instr} {n nL : Nat} {ls ls' st st' : List Value} (hd : decode cc pc = .ok (i, n)) (h : am_pi o i ls st = some (n, ls', st')) (hl : am_L b h0 lsA nL ls)
    (k : ∀ lsA', am_L b h0 lsA' nL ls' → W p l e R s m args below meth c H locs cells slots Q (F0 m (pc + n) lsA' (st'.map (am_v b h0)))) : W p l e R s m args below meth c H locs cells slots Q (F0 m pc lsA (st.map (am_v b h0))) := by
  cases i
  case iconst q =>
    have h : some (1, ls, Value.int (Int32.ofInt q) :: st) = some (n, ls', st') := h
    cases h
    exact lv_iconst hx hb hd rfl (k _ hl)
  case bipush q =>
    have h : some (2, ls, Value.int (Int8.ofInt q).toInt32 :: st) = some (n, ls', st') := h
    cases h
    exact lv_bipush hx hb hd rfl (k _ hl)
  case sipush q =>
    have h : some (3, ls, Value.int (Int16.ofInt q).toInt32 :: st) = some (n, ls', st') := h
    cases h
    exact lv_sipush hx hb hd rfl (k _ hl)
  case lconst q =>
    have h : some (1, ls, Value.long (Int64.ofNat (q : Nat)) :: st) = some (n, ls', st') := h
    cases h
    exact lv_lconst hx hb hd rfl (k _ hl)
  case aconst_null =>
    have h : some (1, ls, Value.null :: st) = some (n, ls', st') := h
    cases h
    exact lv_null hx hb hd (k _ hl)
  case ldc q =>
    obtain ⟨⟨v, pp⟩, h1, h2⟩ := Option.map_eq_some_iff.mp h
    cases h2
    exact lv_ldc hx hb hown (hts _ (am_okK h1)) hd (k _ hl)
  case ldc_w q =>
    obtain ⟨⟨v, pp⟩, h1, h2⟩ := Option.map_eq_some_iff.mp h
    cases h2
    exact lv_ldcw hx hb hown (hts _ (am_okK h1)) hd (k _ hl)
  case ldc2_w q =>
    obtain ⟨⟨v, pp⟩, h1, h2⟩ := Option.map_eq_some_iff.mp h
    cases h2
    exact lv_ldc2 hx hb hown (hts _ (am_okKl h1)) hd (k _ hl)
  case iload_n q =>
    obtain ⟨x, h1, rfl, rfl, rfl⟩ := am_ldi_of h
    exact lv_iload_n hx hb hd rfl (hl.at h1 (by intro r hh; cases hh)) (k _ hl)
  case iload q =>
    obtain ⟨x, h1, rfl, rfl, rfl⟩ := am_ldi_of h
    exact lv_iload hx hb hd (hl.at h1 (by intro r hh; cases hh)) (k _ hl)
  case lload_n q =>
    obtain ⟨x, h1, rfl, rfl, rfl⟩ := am_ldl_of h
    exact lv_lload_n hx hb hd rfl (hl.at h1 (by intro r hh; cases hh)) (k _ hl)
  case lload q =>
    obtain ⟨x, h1, rfl, rfl, rfl⟩ := am_ldl_of h
    exact lv_lload hx hb hd (hl.at h1 (by intro r hh; cases hh)) (k _ hl)
  case aload_n q =>
    obtain ⟨rfl, rfl, ⟨x, h1, rfl⟩ | ⟨h1, rfl⟩⟩ := am_lda_of h
    · exact lv_aload_n hx hb hd rfl (hl.at h1 (by intro r hh; cases hh)) (k _ hl)
    · exact lv_aload_nN hx hb hd rfl (hl.at h1 (by intro r hh; cases hh)) (k _ hl)
  case aload q =>
    obtain ⟨rfl, rfl, ⟨x, h1, rfl⟩ | ⟨h1, rfl⟩⟩ := am_lda_of h
    · exact lv_aload hx hb hd (hl.at h1 (by intro r hh; cases hh)) (k _ hl)
    · exact lv_aloadN hx hb hd (hl.at h1 (by intro r hh; cases hh)) (k _ hl)
  case istore_n q =>
    obtain ⟨x, rfl, rfl, hs⟩ := am_sti_of h
    exact lv_istore_n hx hb hd rfl hl.has (by have := am_s1_lt hs; rw [hl.1] at this; exact this) rfl (fun lsA' h' => k lsA' (hl.st1 hs h'))
  case istore q =>
    obtain ⟨x, rfl, rfl, hs⟩ := am_sti_of h
    exact lv_istore hx hb hd hl.has (by have := am_s1_lt hs; rw [hl.1] at this; exact this) rfl (fun lsA' h' => k lsA' (hl.st1 hs h'))
  case lstore_n q =>
    obtain ⟨x, rfl, rfl, hs⟩ := am_stl_of h
    exact lv_lstore_n hx hb hd rfl hl.has (by have := am_s2_lt hs; rw [hl.1] at this; exact this) rfl (fun lsA' h' => k lsA' (hl.st2 hs h'))
  case lstore q =>
    obtain ⟨x, rfl, rfl, hs⟩ := am_stl_of h
    exact lv_lstore hx hb hd hl.has (by have := am_s2_lt hs; rw [hl.1] at this; exact this) rfl (fun lsA' h' => k lsA' (hl.st2 hs h'))
  case astore_n q =>
    obtain ⟨rfl, ⟨x, rfl, hs⟩ | ⟨rfl, hs⟩⟩ := am_sta_of h
    · exact lv_astore_n hx hb hd rfl hl.has (by have := am_s1_lt hs; rw [hl.1] at this; exact this) rfl (fun lsA' h' => k lsA' (hl.st1 hs h'))
    · exact lv_astore_nN hx hb hd rfl hl.has (by have := am_s1_lt hs; rw [hl.1] at this; exact this) rfl (fun lsA' h' => k lsA' (hl.st1 hs h'))
  case astore q =>
    obtain ⟨rfl, ⟨x, rfl, hs⟩ | ⟨rfl, hs⟩⟩ := am_sta_of h
    · exact lv_astore hx hb hd hl.has (by have := am_s1_lt hs; rw [hl.1] at this; exact this) rfl (fun lsA' h' => k lsA' (hl.st1 hs h'))
    · exact lv_astoreN hx hb hd hl.has (by have := am_s1_lt hs; rw [hl.1] at this; exact this) rfl (fun lsA' h' => k lsA' (hl.st1 hs h'))
  case iinc q z =>
    obtain ⟨x, h1, rfl, rfl, hs⟩ := am_inc_of h
    have h2 : ls[q]? = some (.int x) := by
      rw [List.getD_eq_getElem?_getD] at h1
      cases hi : ls[q]? with
      | none => rw [hi] at h1; cases h1
      | some w => rw [hi] at h1; exact congrArg some h1
    obtain ⟨y, hy⟩ := List.getElem?_of_mem (am_las_in (b := b) (h0 := h0) h2 (by intro r hh; cases hh))
    exact lv_iinc (k := y) (x := x) hx hb hd hl.has hy rfl (by have := am_s1_lt hs; rw [hl.1] at this; exact this) rfl (fun lsA' h' => k lsA' (hl.st1 hs h'))
  case iadd =>
    obtain ⟨x, y, r, rfl, rfl, rfl, rfl⟩ := am_i2_of h
    exact lv_iadd hx hb hd (k _ hl)
  case isub =>
    obtain ⟨x, y, r, rfl, rfl, rfl, rfl⟩ := am_i2_of h
    exact lv_isub hx hb hd (k _ hl)
  case imul =>
    obtain ⟨x, y, r, rfl, rfl, rfl, rfl⟩ := am_i2_of h
    exact lv_imul hx hb hd (k _ hl)
  case iand =>
    obtain ⟨x, y, r, rfl, rfl, rfl, rfl⟩ := am_i2_of h
    exact lv_iand hx hb hd (k _ hl)
  case ior =>
    obtain ⟨x, y, r, rfl, rfl, rfl, rfl⟩ := am_i2_of h
    exact lv_ior hx hb hd (k _ hl)
  case ixor =>
    obtain ⟨x, y, r, rfl, rfl, rfl, rfl⟩ := am_i2_of h
    exact lv_ixor hx hb hd (k _ hl)
  case ishl =>
    obtain ⟨x, y, r, rfl, rfl, rfl, rfl⟩ := am_i2_of h
    exact lv_ishl hx hb hd (k _ hl)
  case ishr =>
    obtain ⟨x, y, r, rfl, rfl, rfl, rfl⟩ := am_i2_of h
    exact lv_ishr hx hb hd (k _ hl)
  case iushr =>
    obtain ⟨x, y, r, rfl, rfl, rfl, rfl⟩ := am_i2_of h
    exact lv_iushr hx hb hd rfl (k _ hl)
  case idiv =>
    obtain ⟨x, y, r, rfl, hy, rfl, rfl, rfl⟩ := am_i2n_of h
    exact lv_idiv hx hb hd hy (k _ hl)
  case irem =>
    obtain ⟨x, y, r, rfl, hy, rfl, rfl, rfl⟩ := am_i2n_of h
    exact lv_irem hx hb hd hy (k _ hl)
  case ineg =>
    obtain ⟨x, r, rfl, rfl, rfl, rfl⟩ := am_i1_of h
    exact lv_ineg hx hb hd (k _ hl)
  case i2l =>
    obtain ⟨x, r, rfl, rfl, rfl, rfl⟩ := am_i1_of h
    exact lv_i2l hx hb hd rfl (k _ hl)
  case i2b =>
    obtain ⟨x, r, rfl, rfl, rfl, rfl⟩ := am_i1_of h
    exact lv_i2b hx hb hd rfl (k _ hl)
  case i2s =>
    obtain ⟨x, r, rfl, rfl, rfl, rfl⟩ := am_i1_of h
    exact lv_i2s hx hb hd rfl (k _ hl)
  case l2i =>
    obtain ⟨x, r, rfl, rfl, rfl, rfl⟩ := am_l1_of h
    exact lv_l2i hx hb hd rfl (k _ hl)
  case ladd =>
    obtain ⟨x, y, r, rfl, rfl, rfl, rfl⟩ := am_l2_of h
    exact lv_ladd hx hb hd (k _ hl)
  case lsub =>
    obtain ⟨x, y, r, rfl, rfl, rfl, rfl⟩ := am_l2_of h
    exact lv_lsub hx hb hd (k _ hl)
  case lmul =>
    obtain ⟨x, y, r, rfl, rfl, rfl, rfl⟩ := am_l2_of h
    exact lv_lmul hx hb hd (k _ hl)
  case land =>
    obtain ⟨x, y, r, rfl, rfl, rfl, rfl⟩ := am_l2_of h
    exact lv_land hx hb hd (k _ hl)
  case lor =>
    obtain ⟨x, y, r, rfl, rfl, rfl, rfl⟩ := am_l2_of h
    exact lv_lor hx hb hd (k _ hl)
  case lcmp =>
    obtain ⟨x, y, r, rfl, rfl, rfl, rfl⟩ := am_l2_of h
    exact W.lcmp hx hb hd (k _ hl)
  case lshl =>
    obtain ⟨x, y, r, rfl, rfl, rfl, rfl⟩ := am_li_of h
    exact lv_lshl hx hb hd rfl (k _ hl)
  case lshr =>
    obtain ⟨x, y, r, rfl, rfl, rfl, rfl⟩ := am_li_of h
    exact lv_lshr hx hb hd rfl (k _ hl)
  case lushr =>
    obtain ⟨x, y, r, rfl, rfl, rfl, rfl⟩ := am_li_of h
    exact lv_lushr hx hb hd rfl (k _ hl)
  case dup =>
    have h : am_dup ls st = some (n, ls', st') := h
    unfold am_dup at h
    split at h
    · split at h
      · rename_i hc; cases h; exact lv_dup hx hb hd (by rw [am_v_cat]; exact hc) (k _ hl)
      · cases h
    · cases h
  case dup2 =>
    have h : am_dup2 ls st = some (n, ls', st') := h
    unfold am_dup2 at h
    split at h
    · split at h
      · rename_i hc; cases h; exact lv_dup2_11 hx hb hd (by rw [am_v_cat]; exact hc.1) (by rw [am_v_cat]; exact hc.2) (k _ hl)
      · cases h
    · cases h
  case pop =>
    have h : am_pop ls st = some (n, ls', st') := h
    unfold am_pop at h
    split at h
    · split at h
      · rename_i hc; cases h; exact lv_pop hx hb hd (by rw [am_v_cat]; exact hc) (k _ hl)
      · cases h
    · cases h
  case pop2 =>
    have h : am_pop2 ls st = some (n, ls', st') := h
    unfold am_pop2 at h
    split at h
    · split at h
      · rename_i hc; cases h; exact lv_pop2_2 hx hb hd (by rw [am_v_cat]; exact hc) (k _ hl)
      · cases h
    · cases h
  all_goals
    have h : none = some (n, ls', st') := h
    cases h
theorem am_bi_ok (hx : p.tables.exec = Jvm.exec) (hb : c.code = cc) {i : Instr} {st st' : List Value} {cnd : Bool} {off : Int} {tgt : Nat} (hd : decode cc pc = .ok (i, 3)) (h : am_bi i st = some (cnd, off, st')) (ht : (pc : Int) + off = (tgt : Int))
    (kt : cnd = true → W p l e R s m args below meth c H locs cells slots Q (F0 m tgt lsA (st'.map (am_v b h0)))) (kf : cnd = false → W p l e R s m args below meth c H locs cells slots Q (F0 m (pc + 3) lsA (st'.map (am_v b h0)))) : W p l e R s m args below meth c H locs cells slots Q (F0 m pc lsA (st.map (am_v b h0))) := by
  cases i
  case ifCond cd q =>
    unfold am_bi at h
    dsimp only at h
    split at h
    · rename_i x r
      cases h
      cases cd
      · exact lv_if_eq hx hb hd ht (fun hc => kt (decide_eq_true hc)) (fun hc => kf (decide_eq_false hc))
      · exact lv_if_ne hx hb hd ht (fun hc => kt (decide_eq_true hc)) (fun hc => kf (decide_eq_false (fun z => z hc)))
      · exact lv_if_lt hx hb hd ht (fun hc => kt (decide_eq_true hc)) (fun hc => kf (decide_eq_false hc))
      · exact lv_if_ge hx hb hd ht (fun hc => kt (decide_eq_true hc)) (fun hc => kf (decide_eq_false hc))
      · exact lv_if_gt hx hb hd ht (fun hc => kt (decide_eq_true hc)) (fun hc => kf (decide_eq_false hc))
      · exact lv_if_le hx hb hd ht (fun hc => kt (decide_eq_true hc)) (fun hc => kf (decide_eq_false hc))
    · cases h
  case if_icmp cd q =>
    unfold am_bi at h
    dsimp only at h
    split at h
    · rename_i y x r
      cases h
      cases cd
      · exact lv_icmp_eq hx hb hd ht (fun hc => kt (decide_eq_true hc)) (fun hc => kf (decide_eq_false hc))
      · exact lv_icmp_ne hx hb hd ht (fun hc => kt (decide_eq_true hc)) (fun hc => kf (decide_eq_false (fun z => z hc)))
      · exact lv_icmp_lt hx hb hd ht (fun hc => kt (decide_eq_true hc)) (fun hc => kf (decide_eq_false hc))
      · exact lv_icmp_ge hx hb hd ht (fun hc => kt (decide_eq_true hc)) (fun hc => kf (decide_eq_false hc))
      · exact lv_icmp_gt hx hb hd ht (fun hc => kt (decide_eq_true hc)) (fun hc => kf (decide_eq_false hc))
      · exact lv_icmp_le hx hb hd ht (fun hc => kt (decide_eq_true hc)) (fun hc => kf (decide_eq_false hc))
    · cases h
  case ifnull q =>
    unfold am_bi at h
    dsimp only at h
    split at h
    · cases h; exact lv_ifnullN hx hb hd ht (kt rfl)
    · cases h; exact lv_ifnull hx hb hd (kf rfl)
    · cases h
  case ifnonnull q =>
    unfold am_bi at h
    dsimp only at h
    split at h
    · cases h; exact lv_ifnonnullN hx hb hd (kf rfl)
    · cases h; exact lv_ifnonnull hx hb hd ht (kt rfl)
    · cases h
  case goto q =>
    have h : some (true, q, st) = some (cnd, off, st') := h
    cases h
    exact lv_goto hx hb hd ht (kt rfl)
  all_goals
    have h : none = some (cnd, off, st') := h
    cases h
theorem am_sw_ok (hx : p.tables.exec = Jvm.exec) (hb : c.code = cc) {i : Instr} {st st' : List Value} {n : Nat} {off : Int} {tgt : Nat} (hd : decode cc pc = .ok (i, n)) (h : am_sw i st = some (off, st')) (ht : (pc : Int) + off = (tgt : Int))
    (k : W p l e R s m args below meth c H locs cells slots Q (F0 m tgt lsA (st'.map (am_v b h0)))) : W p l e R s m args below meth c H locs cells slots Q (F0 m pc lsA (st.map (am_v b h0))) := by
  cases i
  case tableswitch dflt lo hi offs =>
    unfold am_sw at h
    dsimp only at h
    split at h
    · rename_i x r
      split at h
      · rename_i hc
        cases h
        exact lv_tableOut hx hb hd hc ht k
      · rename_i hc
        obtain ⟨o1, h1, h2⟩ := Option.map_eq_some_iff.mp h
        cases h2
        exact lv_tableIn hx hb hd (fun z => hc (Or.inl z)) (fun z => hc (Or.inr z)) h1 ht k
    · cases h
  case lookupswitch dflt ps =>
    unfold am_sw at h
    dsimp only at h
    split at h
    · rename_i x r
      split at h
      · rename_i hc
        cases h
        exact lv_lookup hx hb hd hc rfl ht k
      · cases h
    · cases h
  all_goals
    have h : none = some (off, st') := h
    cases h
end AMI
