def am_fR (j : Nat) (r : Nat × Instr × Nat) : Bool := decide (decode (T_code j) r.1 = .ok (r.2.1, r.2.2))
def am_fI (j : Nat) : Bool := (T_insL.getD j []).all (am_fR j)
/-! DECODING, QUICKLY: a row is held against the list of the bytes, one walk a method -/
theorem am_rbind {α β : Type} {x : Decoder α} {f : α → Decoder β} {c : ByteArray} {p q : Nat} {a : α} (h : x c p = .ok (a, q)) : (x >>= f) c p = f a c q := by
  show (x c p >>= fun s => f s.1 c s.2) = f a c q
  rw [h]
  rfl
theorem am_ru1 {c : ByteArray} {p : Nat} {b : UInt8} {r : List UInt8} (h : c.data.toList.drop p = b :: r) : (Reader.u1 : Decoder Nat) c p = .ok (b.toNat, p + 1) := by
  have h1 : c.data.toList[p]? = some b := by
    have := congrArg (fun l => l[0]?) h
    simpa using this
  obtain ⟨h2, h3⟩ := List.getElem?_eq_some_iff.mp h1
  have h4 : p < c.size := h2
  have h5 : c[p] = b := h3
  show (if h : p < c.size then _ else _ : Decoder Nat) c p = _
  rw [dif_pos h4, h5]
  rfl
theorem am_rtl {c : ByteArray} {p : Nat} {b : UInt8} {r : List UInt8} (h : c.data.toList.drop p = b :: r) : c.data.toList.drop (p + 1) = r := by
  have := congrArg List.tail h
  simpa using this
theorem am_ru2 {c : ByteArray} {p : Nat} {b d : UInt8} {r : List UInt8} (h : c.data.toList.drop p = b :: d :: r) : (Reader.u2 : Decoder Nat) c p = .ok (b.toNat * 256 + d.toNat, p + 2) := by
  unfold Reader.u2
  rw [am_rbind (am_ru1 h), am_rbind (am_ru1 (am_rtl h))]
  rfl
theorem am_rs1 {c : ByteArray} {p : Nat} {b : UInt8} {r : List UInt8} (h : c.data.toList.drop p = b :: r) : (Reader.s1 : Decoder Int) c p = .ok (Reader.signed 8 b.toNat, p + 1) := by
  show (Reader.u1 >>= fun k => Pure.pure (Reader.signed 8 k) : Decoder Int) c p = _
  rw [am_rbind (am_ru1 h)]
  rfl
theorem am_rs2 {c : ByteArray} {p : Nat} {b d : UInt8} {r : List UInt8} (h : c.data.toList.drop p = b :: d :: r) : (Reader.s2 : Decoder Int) c p = .ok (Reader.signed 16 (b.toNat * 256 + d.toNat), p + 2) := by
  show (Reader.u2 >>= fun k => Pure.pure (Reader.signed 16 k) : Decoder Int) c p = _
  rw [am_rbind (am_ru2 h)]
  rfl
-- what the decoder does behind the first byte
set_option maxRecDepth 100000 in
def am_zF (p : Nat) : Nat → Decoder Instr := (fun {f : Nat → Decoder Instr} (_ : Decoder.instr p = Reader.u1 >>= f) => f) (by unfold Decoder.instr; exact rfl)
set_option maxRecDepth 100000 in
theorem am_rF (p : Nat) : Decoder.instr p = Reader.u1 >>= am_zF p := by
  unfold Decoder.instr am_zF
  rfl
theorem am_rin {c : ByteArray} {p q n : Nat} {b : UInt8} {r : List UInt8} {i : Instr} (h : c.data.toList.drop p = b :: r) (hn : b.toNat = n) (hF : am_zF p n c (p + 1) = .ok (i, p + q)) : decode c p = .ok (i, q) := by
  have h1 : (Decoder.instr p : Decoder Instr) c p = .ok (i, p + q) := by
    rw [am_rF, am_rbind (am_ru1 h), hn, hF]
  unfold decode Reader.runAt
  show ((Decoder.instr p : Decoder Instr) c p >>= fun s => pure (s.1, s.2 - p) : Except DecodeError (Instr × Nat)) = _
  rw [h1]
  show Except.ok (i, p + q - p) = _
  rw [Nat.add_sub_cancel_left]
def am_d0 (i : Instr) : Decoder Instr := Pure.pure i
def am_dk {α : Type} (x : Decoder α) (g : α → Instr) : Decoder Instr := x >>= fun k => Pure.pure (g k)
def am_dj {α β : Type} (x : Decoder α) (y : Decoder β) (g : α → β → Instr) : Decoder Instr := x >>= fun k => y >>= fun j => Pure.pure (g k j)
-- the forms: the bytes of each
def am_p0 (v n : Nat) (l : List UInt8) : Bool := match l with
  | b :: _ => Nat.beq b.toNat v && Nat.beq n 1
  | [] => false
def am_pU (v k n : Nat) (l : List UInt8) : Bool := match l with
  | b :: x :: _ => Nat.beq b.toNat v && (Nat.beq x.toNat k && Nat.beq n 2)
  | _ => false
def am_pS (v : Nat) (k : Int) (n : Nat) (l : List UInt8) : Bool := match l with
  | b :: x :: _ => Nat.beq b.toNat v && (decide (Reader.signed 8 x.toNat = k) && Nat.beq n 2)
  | _ => false
def am_pV (v k n : Nat) (l : List UInt8) : Bool := match l with
  | b :: x :: y :: _ => Nat.beq b.toNat v && (Nat.beq (x.toNat * 256 + y.toNat) k && Nat.beq n 3)
  | _ => false
def am_pT (v : Nat) (k : Int) (n : Nat) (l : List UInt8) : Bool := match l with
  | b :: x :: y :: _ => Nat.beq b.toNat v && (decide (Reader.signed 16 (x.toNat * 256 + y.toNat) = k) && Nat.beq n 3)
  | _ => false
def am_pK (v k : Nat) (j : Int) (n : Nat) (l : List UInt8) : Bool := match l with
  | b :: x :: y :: _ => Nat.beq b.toNat v && (Nat.beq x.toNat k && (decide (Reader.signed 8 y.toNat = j) && Nat.beq n 3))
  | _ => false
section AMD
variable {c : ByteArray} {p v n k : Nat} {j : Int} {i : Instr}
theorem am_p0S (hF : am_zF p v = am_d0 i) (h : am_p0 v n (c.data.toList.drop p) = true) : decode c p = .ok (i, n) := by
  unfold am_p0 at h
  split at h
  · rename_i b r e
    rw [Bool.and_eq_true] at h
    have hn := Nat.eq_of_beq_eq_true h.2
    subst hn
    refine am_rin e (Nat.eq_of_beq_eq_true h.1) ?_
    rw [hF]
    rfl
  · cases h
theorem am_pUS {g : Nat → Instr} (hF : am_zF p v = am_dk Reader.u1 g) (h : am_pU v k n (c.data.toList.drop p) = true) : decode c p = .ok (g k, n) := by
  unfold am_pU at h
  split at h
  · rename_i b x r e
    rw [Bool.and_eq_true, Bool.and_eq_true] at h
    have hn := Nat.eq_of_beq_eq_true h.2.2
    subst hn
    refine am_rin e (Nat.eq_of_beq_eq_true h.1) ?_
    rw [hF]
    unfold am_dk
    rw [am_rbind (am_ru1 (am_rtl e)), Nat.eq_of_beq_eq_true h.2.1]
    rfl
  · cases h
theorem am_pSS {g : Int → Instr} (hF : am_zF p v = am_dk Reader.s1 g) (h : am_pS v j n (c.data.toList.drop p) = true) : decode c p = .ok (g j, n) := by
  unfold am_pS at h
  split at h
  · rename_i b x r e
    rw [Bool.and_eq_true, Bool.and_eq_true] at h
    have hn := Nat.eq_of_beq_eq_true h.2.2
    subst hn
    refine am_rin e (Nat.eq_of_beq_eq_true h.1) ?_
    rw [hF]
    unfold am_dk
    rw [am_rbind (am_rs1 (am_rtl e)), of_decide_eq_true h.2.1]
    rfl
  · cases h
theorem am_pVS {g : Nat → Instr} (hF : am_zF p v = am_dk Reader.u2 g) (h : am_pV v k n (c.data.toList.drop p) = true) : decode c p = .ok (g k, n) := by
  unfold am_pV at h
  split at h
  · rename_i b x y r e
    rw [Bool.and_eq_true, Bool.and_eq_true] at h
    have hn := Nat.eq_of_beq_eq_true h.2.2
    subst hn
    refine am_rin e (Nat.eq_of_beq_eq_true h.1) ?_
    rw [hF]
    unfold am_dk
    rw [am_rbind (am_ru2 (am_rtl e)), Nat.eq_of_beq_eq_true h.2.1]
    rfl
  · cases h
theorem am_pTS {g : Int → Instr} (hF : am_zF p v = am_dk Reader.s2 g) (h : am_pT v j n (c.data.toList.drop p) = true) : decode c p = .ok (g j, n) := by
  unfold am_pT at h
  split at h
  · rename_i b x y r e
    rw [Bool.and_eq_true, Bool.and_eq_true] at h
    have hn := Nat.eq_of_beq_eq_true h.2.2
    subst hn
    refine am_rin e (Nat.eq_of_beq_eq_true h.1) ?_
    rw [hF]
    unfold am_dk
    rw [am_rbind (am_rs2 (am_rtl e)), of_decide_eq_true h.2.1]
    rfl
  · cases h
theorem am_pKS {g : Nat → Int → Instr} (hF : am_zF p v = am_dj Reader.u1 Reader.s1 g) (h : am_pK v k j n (c.data.toList.drop p) = true) : decode c p = .ok (g k j, n) := by
  unfold am_pK at h
  split at h
  · rename_i b x y r e
    rw [Bool.and_eq_true, Bool.and_eq_true, Bool.and_eq_true] at h
    have hn := Nat.eq_of_beq_eq_true h.2.2.2
    subst hn
    refine am_rin e (Nat.eq_of_beq_eq_true h.1) ?_
    rw [hF]
    unfold am_dj
    rw [am_rbind (am_ru1 (am_rtl e)), Nat.eq_of_beq_eq_true h.2.1]
    rw [am_rbind (am_rs1 (am_rtl (am_rtl e))), of_decide_eq_true h.2.2.1]
    rfl
  · cases h
end AMD
set_option maxRecDepth 100000 in
theorem am_r50 (p : Nat) : am_zF p 50 = am_d0 .aaload := rfl
set_option maxRecDepth 100000 in
theorem am_r83 (p : Nat) : am_zF p 83 = am_d0 .aastore := rfl
set_option maxRecDepth 100000 in
theorem am_r1 (p : Nat) : am_zF p 1 = am_d0 .aconst_null := rfl
set_option maxRecDepth 100000 in
theorem am_r176 (p : Nat) : am_zF p 176 = am_d0 .areturn := rfl
set_option maxRecDepth 100000 in
theorem am_r190 (p : Nat) : am_zF p 190 = am_d0 .arraylength := rfl
set_option maxRecDepth 100000 in
theorem am_r51 (p : Nat) : am_zF p 51 = am_d0 .baload := rfl
set_option maxRecDepth 100000 in
theorem am_r84 (p : Nat) : am_zF p 84 = am_d0 .bastore := rfl
set_option maxRecDepth 100000 in
theorem am_r89 (p : Nat) : am_zF p 89 = am_d0 .dup := rfl
set_option maxRecDepth 100000 in
theorem am_r92 (p : Nat) : am_zF p 92 = am_d0 .dup2 := rfl
set_option maxRecDepth 100000 in
theorem am_r145 (p : Nat) : am_zF p 145 = am_d0 .i2b := rfl
set_option maxRecDepth 100000 in
theorem am_r133 (p : Nat) : am_zF p 133 = am_d0 .i2l := rfl
set_option maxRecDepth 100000 in
theorem am_r147 (p : Nat) : am_zF p 147 = am_d0 .i2s := rfl
set_option maxRecDepth 100000 in
theorem am_r96 (p : Nat) : am_zF p 96 = am_d0 .iadd := rfl
set_option maxRecDepth 100000 in
theorem am_r46 (p : Nat) : am_zF p 46 = am_d0 .iaload := rfl
set_option maxRecDepth 100000 in
theorem am_r126 (p : Nat) : am_zF p 126 = am_d0 .iand := rfl
set_option maxRecDepth 100000 in
theorem am_r79 (p : Nat) : am_zF p 79 = am_d0 .iastore := rfl
set_option maxRecDepth 100000 in
theorem am_r108 (p : Nat) : am_zF p 108 = am_d0 .idiv := rfl
set_option maxRecDepth 100000 in
theorem am_r104 (p : Nat) : am_zF p 104 = am_d0 .imul := rfl
set_option maxRecDepth 100000 in
theorem am_r116 (p : Nat) : am_zF p 116 = am_d0 .ineg := rfl
set_option maxRecDepth 100000 in
theorem am_r128 (p : Nat) : am_zF p 128 = am_d0 .ior := rfl
set_option maxRecDepth 100000 in
theorem am_r112 (p : Nat) : am_zF p 112 = am_d0 .irem := rfl
set_option maxRecDepth 100000 in
theorem am_r172 (p : Nat) : am_zF p 172 = am_d0 .ireturn := rfl
set_option maxRecDepth 100000 in
theorem am_r120 (p : Nat) : am_zF p 120 = am_d0 .ishl := rfl
set_option maxRecDepth 100000 in
theorem am_r122 (p : Nat) : am_zF p 122 = am_d0 .ishr := rfl
set_option maxRecDepth 100000 in
theorem am_r100 (p : Nat) : am_zF p 100 = am_d0 .isub := rfl
set_option maxRecDepth 100000 in
theorem am_r124 (p : Nat) : am_zF p 124 = am_d0 .iushr := rfl
set_option maxRecDepth 100000 in
theorem am_r130 (p : Nat) : am_zF p 130 = am_d0 .ixor := rfl
set_option maxRecDepth 100000 in
theorem am_r136 (p : Nat) : am_zF p 136 = am_d0 .l2i := rfl
set_option maxRecDepth 100000 in
theorem am_r97 (p : Nat) : am_zF p 97 = am_d0 .ladd := rfl
set_option maxRecDepth 100000 in
theorem am_r127 (p : Nat) : am_zF p 127 = am_d0 .land := rfl
set_option maxRecDepth 100000 in
theorem am_r148 (p : Nat) : am_zF p 148 = am_d0 .lcmp := rfl
set_option maxRecDepth 100000 in
theorem am_r105 (p : Nat) : am_zF p 105 = am_d0 .lmul := rfl
set_option maxRecDepth 100000 in
theorem am_r129 (p : Nat) : am_zF p 129 = am_d0 .lor := rfl
set_option maxRecDepth 100000 in
theorem am_r173 (p : Nat) : am_zF p 173 = am_d0 .lreturn := rfl
set_option maxRecDepth 100000 in
theorem am_r121 (p : Nat) : am_zF p 121 = am_d0 .lshl := rfl
set_option maxRecDepth 100000 in
theorem am_r123 (p : Nat) : am_zF p 123 = am_d0 .lshr := rfl
set_option maxRecDepth 100000 in
theorem am_r101 (p : Nat) : am_zF p 101 = am_d0 .lsub := rfl
set_option maxRecDepth 100000 in
theorem am_r125 (p : Nat) : am_zF p 125 = am_d0 .lushr := rfl
set_option maxRecDepth 100000 in
theorem am_r87 (p : Nat) : am_zF p 87 = am_d0 .pop := rfl
set_option maxRecDepth 100000 in
theorem am_r88 (p : Nat) : am_zF p 88 = am_d0 .pop2 := rfl
set_option maxRecDepth 100000 in
theorem am_r177 (p : Nat) : am_zF p 177 = am_d0 .return_ := rfl
set_option maxRecDepth 100000 in
theorem am_r42 (p : Nat) : am_zF p 42 = am_d0 (.aload_n 0) := rfl
set_option maxRecDepth 100000 in
theorem am_r43 (p : Nat) : am_zF p 43 = am_d0 (.aload_n 1) := rfl
set_option maxRecDepth 100000 in
theorem am_r44 (p : Nat) : am_zF p 44 = am_d0 (.aload_n 2) := rfl
set_option maxRecDepth 100000 in
theorem am_r45 (p : Nat) : am_zF p 45 = am_d0 (.aload_n 3) := rfl
set_option maxRecDepth 100000 in
theorem am_r75 (p : Nat) : am_zF p 75 = am_d0 (.astore_n 0) := rfl
set_option maxRecDepth 100000 in
theorem am_r76 (p : Nat) : am_zF p 76 = am_d0 (.astore_n 1) := rfl
set_option maxRecDepth 100000 in
theorem am_r77 (p : Nat) : am_zF p 77 = am_d0 (.astore_n 2) := rfl
set_option maxRecDepth 100000 in
theorem am_r78 (p : Nat) : am_zF p 78 = am_d0 (.astore_n 3) := rfl
set_option maxRecDepth 100000 in
theorem am_r26 (p : Nat) : am_zF p 26 = am_d0 (.iload_n 0) := rfl
set_option maxRecDepth 100000 in
theorem am_r27 (p : Nat) : am_zF p 27 = am_d0 (.iload_n 1) := rfl
set_option maxRecDepth 100000 in
theorem am_r28 (p : Nat) : am_zF p 28 = am_d0 (.iload_n 2) := rfl
set_option maxRecDepth 100000 in
theorem am_r29 (p : Nat) : am_zF p 29 = am_d0 (.iload_n 3) := rfl
set_option maxRecDepth 100000 in
theorem am_r59 (p : Nat) : am_zF p 59 = am_d0 (.istore_n 0) := rfl
set_option maxRecDepth 100000 in
theorem am_r60 (p : Nat) : am_zF p 60 = am_d0 (.istore_n 1) := rfl
set_option maxRecDepth 100000 in
theorem am_r61 (p : Nat) : am_zF p 61 = am_d0 (.istore_n 2) := rfl
set_option maxRecDepth 100000 in
theorem am_r62 (p : Nat) : am_zF p 62 = am_d0 (.istore_n 3) := rfl
set_option maxRecDepth 100000 in
theorem am_r9 (p : Nat) : am_zF p 9 = am_d0 (.lconst 0) := rfl
set_option maxRecDepth 100000 in
theorem am_r10 (p : Nat) : am_zF p 10 = am_d0 (.lconst 1) := rfl
set_option maxRecDepth 100000 in
theorem am_r30 (p : Nat) : am_zF p 30 = am_d0 (.lload_n 0) := rfl
set_option maxRecDepth 100000 in
theorem am_r31 (p : Nat) : am_zF p 31 = am_d0 (.lload_n 1) := rfl
set_option maxRecDepth 100000 in
theorem am_r32 (p : Nat) : am_zF p 32 = am_d0 (.lload_n 2) := rfl
set_option maxRecDepth 100000 in
theorem am_r33 (p : Nat) : am_zF p 33 = am_d0 (.lload_n 3) := rfl
set_option maxRecDepth 100000 in
theorem am_r63 (p : Nat) : am_zF p 63 = am_d0 (.lstore_n 0) := rfl
set_option maxRecDepth 100000 in
theorem am_r64 (p : Nat) : am_zF p 64 = am_d0 (.lstore_n 1) := rfl
set_option maxRecDepth 100000 in
theorem am_r65 (p : Nat) : am_zF p 65 = am_d0 (.lstore_n 2) := rfl
set_option maxRecDepth 100000 in
theorem am_r66 (p : Nat) : am_zF p 66 = am_d0 (.lstore_n 3) := rfl
set_option maxRecDepth 100000 in
theorem am_r25 (p : Nat) : am_zF p 25 = am_dk Reader.u1 .aload := rfl
set_option maxRecDepth 100000 in
theorem am_r58 (p : Nat) : am_zF p 58 = am_dk Reader.u1 .astore := rfl
set_option maxRecDepth 100000 in
theorem am_r21 (p : Nat) : am_zF p 21 = am_dk Reader.u1 .iload := rfl
set_option maxRecDepth 100000 in
theorem am_r54 (p : Nat) : am_zF p 54 = am_dk Reader.u1 .istore := rfl
set_option maxRecDepth 100000 in
theorem am_r18 (p : Nat) : am_zF p 18 = am_dk Reader.u1 .ldc := rfl
set_option maxRecDepth 100000 in
theorem am_r22 (p : Nat) : am_zF p 22 = am_dk Reader.u1 .lload := rfl
set_option maxRecDepth 100000 in
theorem am_r55 (p : Nat) : am_zF p 55 = am_dk Reader.u1 .lstore := rfl
set_option maxRecDepth 100000 in
theorem am_r16 (p : Nat) : am_zF p 16 = am_dk Reader.s1 .bipush := rfl
set_option maxRecDepth 100000 in
theorem am_r189 (p : Nat) : am_zF p 189 = am_dk Reader.u2 .anewarray := rfl
set_option maxRecDepth 100000 in
theorem am_r180 (p : Nat) : am_zF p 180 = am_dk Reader.u2 .getfield := rfl
set_option maxRecDepth 100000 in
theorem am_r183 (p : Nat) : am_zF p 183 = am_dk Reader.u2 .invokespecial := rfl
set_option maxRecDepth 100000 in
theorem am_r184 (p : Nat) : am_zF p 184 = am_dk Reader.u2 .invokestatic := rfl
set_option maxRecDepth 100000 in
theorem am_r182 (p : Nat) : am_zF p 182 = am_dk Reader.u2 .invokevirtual := rfl
set_option maxRecDepth 100000 in
theorem am_r20 (p : Nat) : am_zF p 20 = am_dk Reader.u2 .ldc2_w := rfl
set_option maxRecDepth 100000 in
theorem am_r19 (p : Nat) : am_zF p 19 = am_dk Reader.u2 .ldc_w := rfl
set_option maxRecDepth 100000 in
theorem am_r187 (p : Nat) : am_zF p 187 = am_dk Reader.u2 .new := rfl
set_option maxRecDepth 100000 in
theorem am_r181 (p : Nat) : am_zF p 181 = am_dk Reader.u2 .putfield := rfl
set_option maxRecDepth 100000 in
theorem am_r167 (p : Nat) : am_zF p 167 = am_dk Reader.s2 .goto := rfl
set_option maxRecDepth 100000 in
theorem am_r199 (p : Nat) : am_zF p 199 = am_dk Reader.s2 .ifnonnull := rfl
set_option maxRecDepth 100000 in
theorem am_r198 (p : Nat) : am_zF p 198 = am_dk Reader.s2 .ifnull := rfl
set_option maxRecDepth 100000 in
theorem am_r17 (p : Nat) : am_zF p 17 = am_dk Reader.s2 .sipush := rfl
set_option maxRecDepth 100000 in
theorem am_r153 (p : Nat) : am_zF p 153 = am_dk Reader.s2 (.ifCond .eq) := rfl
set_option maxRecDepth 100000 in
theorem am_r154 (p : Nat) : am_zF p 154 = am_dk Reader.s2 (.ifCond .ne) := rfl
set_option maxRecDepth 100000 in
theorem am_r155 (p : Nat) : am_zF p 155 = am_dk Reader.s2 (.ifCond .lt) := rfl
set_option maxRecDepth 100000 in
theorem am_r156 (p : Nat) : am_zF p 156 = am_dk Reader.s2 (.ifCond .ge) := rfl
set_option maxRecDepth 100000 in
theorem am_r157 (p : Nat) : am_zF p 157 = am_dk Reader.s2 (.ifCond .gt) := rfl
set_option maxRecDepth 100000 in
theorem am_r158 (p : Nat) : am_zF p 158 = am_dk Reader.s2 (.ifCond .le) := rfl
set_option maxRecDepth 100000 in
theorem am_r159 (p : Nat) : am_zF p 159 = am_dk Reader.s2 (.if_icmp .eq) := rfl
set_option maxRecDepth 100000 in
theorem am_r160 (p : Nat) : am_zF p 160 = am_dk Reader.s2 (.if_icmp .ne) := rfl
set_option maxRecDepth 100000 in
theorem am_r161 (p : Nat) : am_zF p 161 = am_dk Reader.s2 (.if_icmp .lt) := rfl
set_option maxRecDepth 100000 in
theorem am_r162 (p : Nat) : am_zF p 162 = am_dk Reader.s2 (.if_icmp .ge) := rfl
set_option maxRecDepth 100000 in
theorem am_r163 (p : Nat) : am_zF p 163 = am_dk Reader.s2 (.if_icmp .gt) := rfl
set_option maxRecDepth 100000 in
theorem am_r164 (p : Nat) : am_zF p 164 = am_dk Reader.s2 (.if_icmp .le) := rfl
set_option maxRecDepth 100000 in
theorem am_r132 (p : Nat) : am_zF p 132 = am_dj Reader.u1 Reader.s1 .iinc := rfl
set_option maxRecDepth 100000 in
theorem am_r2 (p : Nat) : am_zF p 2 = am_d0 (.iconst (-1)) := rfl
set_option maxRecDepth 100000 in
theorem am_r3 (p : Nat) : am_zF p 3 = am_d0 (.iconst 0) := rfl
set_option maxRecDepth 100000 in
theorem am_r4 (p : Nat) : am_zF p 4 = am_d0 (.iconst 1) := rfl
set_option maxRecDepth 100000 in
theorem am_r5 (p : Nat) : am_zF p 5 = am_d0 (.iconst 2) := rfl
set_option maxRecDepth 100000 in
theorem am_r6 (p : Nat) : am_zF p 6 = am_d0 (.iconst 3) := rfl
set_option maxRecDepth 100000 in
theorem am_r7 (p : Nat) : am_zF p 7 = am_d0 (.iconst 4) := rfl
set_option maxRecDepth 100000 in
theorem am_r8 (p : Nat) : am_zF p 8 = am_d0 (.iconst 5) := rfl
/-- does the list of bytes begin with this instruction, of this length? -/
def am_ze (i : Instr) (n : Nat) (l : List UInt8) : Bool := match i with
  | .aaload => am_p0 50 n l
  | .aastore => am_p0 83 n l
  | .aconst_null => am_p0 1 n l
  | .areturn => am_p0 176 n l
  | .arraylength => am_p0 190 n l
  | .baload => am_p0 51 n l
  | .bastore => am_p0 84 n l
  | .dup => am_p0 89 n l
  | .dup2 => am_p0 92 n l
  | .i2b => am_p0 145 n l
  | .i2l => am_p0 133 n l
  | .i2s => am_p0 147 n l
  | .iadd => am_p0 96 n l
  | .iaload => am_p0 46 n l
  | .iand => am_p0 126 n l
  | .iastore => am_p0 79 n l
  | .idiv => am_p0 108 n l
  | .imul => am_p0 104 n l
  | .ineg => am_p0 116 n l
  | .ior => am_p0 128 n l
  | .irem => am_p0 112 n l
  | .ireturn => am_p0 172 n l
  | .ishl => am_p0 120 n l
  | .ishr => am_p0 122 n l
  | .isub => am_p0 100 n l
  | .iushr => am_p0 124 n l
  | .ixor => am_p0 130 n l
  | .l2i => am_p0 136 n l
  | .ladd => am_p0 97 n l
  | .land => am_p0 127 n l
  | .lcmp => am_p0 148 n l
  | .lmul => am_p0 105 n l
  | .lor => am_p0 129 n l
  | .lreturn => am_p0 173 n l
  | .lshl => am_p0 121 n l
  | .lshr => am_p0 123 n l
  | .lsub => am_p0 101 n l
  | .lushr => am_p0 125 n l
  | .pop => am_p0 87 n l
  | .pop2 => am_p0 88 n l
  | .return_ => am_p0 177 n l
  | .aload_n k => am_p0 (42 + k.val) n l
  | .astore_n k => am_p0 (75 + k.val) n l
  | .iload_n k => am_p0 (26 + k.val) n l
  | .istore_n k => am_p0 (59 + k.val) n l
  | .lconst k => am_p0 (9 + k.val) n l
  | .lload_n k => am_p0 (30 + k.val) n l
  | .lstore_n k => am_p0 (63 + k.val) n l
  | .aload k => am_pU 25 k n l
  | .astore k => am_pU 58 k n l
  | .iload k => am_pU 21 k n l
  | .istore k => am_pU 54 k n l
  | .ldc k => am_pU 18 k n l
  | .lload k => am_pU 22 k n l
  | .lstore k => am_pU 55 k n l
  | .bipush k => am_pS 16 k n l
  | .anewarray k => am_pV 189 k n l
  | .getfield k => am_pV 180 k n l
  | .invokespecial k => am_pV 183 k n l
  | .invokestatic k => am_pV 184 k n l
  | .invokevirtual k => am_pV 182 k n l
  | .ldc2_w k => am_pV 20 k n l
  | .ldc_w k => am_pV 19 k n l
  | .new k => am_pV 187 k n l
  | .putfield k => am_pV 181 k n l
  | .goto k => am_pT 167 k n l
  | .ifnonnull k => am_pT 199 k n l
  | .ifnull k => am_pT 198 k n l
  | .sipush k => am_pT 17 k n l
  | .ifCond q k => match q with
    | .eq => am_pT 153 k n l
    | .ne => am_pT 154 k n l
    | .lt => am_pT 155 k n l
    | .ge => am_pT 156 k n l
    | .gt => am_pT 157 k n l
    | .le => am_pT 158 k n l
  | .if_icmp q k => match q with
    | .eq => am_pT 159 k n l
    | .ne => am_pT 160 k n l
    | .lt => am_pT 161 k n l
    | .ge => am_pT 162 k n l
    | .gt => am_pT 163 k n l
    | .le => am_pT 164 k n l
  | .iinc k j => am_pK 132 k j n l
  | .iconst z => match z with
    | .ofNat 0 => am_p0 3 n l
    | .ofNat 1 => am_p0 4 n l
    | .ofNat 2 => am_p0 5 n l
    | .ofNat 3 => am_p0 6 n l
    | .ofNat 4 => am_p0 7 n l
    | .ofNat 5 => am_p0 8 n l
    | .negSucc 0 => am_p0 2 n l
    | _ => false
  | _ => false
set_option maxRecDepth 100000 in
theorem am_zeS {c : ByteArray} {p n : Nat} {i : Instr} (h : am_ze i n (c.data.toList.drop p) = true) : decode c p = .ok (i, n) := by
  cases i with
  | aaload => exact am_p0S (am_r50 p) h
  | aastore => exact am_p0S (am_r83 p) h
  | aconst_null => exact am_p0S (am_r1 p) h
  | areturn => exact am_p0S (am_r176 p) h
  | arraylength => exact am_p0S (am_r190 p) h
  | baload => exact am_p0S (am_r51 p) h
  | bastore => exact am_p0S (am_r84 p) h
  | dup => exact am_p0S (am_r89 p) h
  | dup2 => exact am_p0S (am_r92 p) h
  | i2b => exact am_p0S (am_r145 p) h
  | i2l => exact am_p0S (am_r133 p) h
  | i2s => exact am_p0S (am_r147 p) h
  | iadd => exact am_p0S (am_r96 p) h
  | iaload => exact am_p0S (am_r46 p) h
  | iand => exact am_p0S (am_r126 p) h
  | iastore => exact am_p0S (am_r79 p) h
  | idiv => exact am_p0S (am_r108 p) h
  | imul => exact am_p0S (am_r104 p) h
  | ineg => exact am_p0S (am_r116 p) h
  | ior => exact am_p0S (am_r128 p) h
  | irem => exact am_p0S (am_r112 p) h
  | ireturn => exact am_p0S (am_r172 p) h
  | ishl => exact am_p0S (am_r120 p) h
  | ishr => exact am_p0S (am_r122 p) h
  | isub => exact am_p0S (am_r100 p) h
  | iushr => exact am_p0S (am_r124 p) h
  | ixor => exact am_p0S (am_r130 p) h
  | l2i => exact am_p0S (am_r136 p) h
  | ladd => exact am_p0S (am_r97 p) h
  | land => exact am_p0S (am_r127 p) h
  | lcmp => exact am_p0S (am_r148 p) h
  | lmul => exact am_p0S (am_r105 p) h
  | lor => exact am_p0S (am_r129 p) h
  | lreturn => exact am_p0S (am_r173 p) h
  | lshl => exact am_p0S (am_r121 p) h
  | lshr => exact am_p0S (am_r123 p) h
  | lsub => exact am_p0S (am_r101 p) h
  | lushr => exact am_p0S (am_r125 p) h
  | pop => exact am_p0S (am_r87 p) h
  | pop2 => exact am_p0S (am_r88 p) h
  | return_ => exact am_p0S (am_r177 p) h
  | aload_n k => exact match k, h with
    | ⟨0, _⟩, h => am_p0S (am_r42 p) h
    | ⟨1, _⟩, h => am_p0S (am_r43 p) h
    | ⟨2, _⟩, h => am_p0S (am_r44 p) h
    | ⟨3, _⟩, h => am_p0S (am_r45 p) h
  | astore_n k => exact match k, h with
    | ⟨0, _⟩, h => am_p0S (am_r75 p) h
    | ⟨1, _⟩, h => am_p0S (am_r76 p) h
    | ⟨2, _⟩, h => am_p0S (am_r77 p) h
    | ⟨3, _⟩, h => am_p0S (am_r78 p) h
  | iload_n k => exact match k, h with
    | ⟨0, _⟩, h => am_p0S (am_r26 p) h
    | ⟨1, _⟩, h => am_p0S (am_r27 p) h
    | ⟨2, _⟩, h => am_p0S (am_r28 p) h
    | ⟨3, _⟩, h => am_p0S (am_r29 p) h
  | istore_n k => exact match k, h with
    | ⟨0, _⟩, h => am_p0S (am_r59 p) h
    | ⟨1, _⟩, h => am_p0S (am_r60 p) h
    | ⟨2, _⟩, h => am_p0S (am_r61 p) h
    | ⟨3, _⟩, h => am_p0S (am_r62 p) h
  | lconst k => exact match k, h with
    | ⟨0, _⟩, h => am_p0S (am_r9 p) h
    | ⟨1, _⟩, h => am_p0S (am_r10 p) h
  | lload_n k => exact match k, h with
    | ⟨0, _⟩, h => am_p0S (am_r30 p) h
    | ⟨1, _⟩, h => am_p0S (am_r31 p) h
    | ⟨2, _⟩, h => am_p0S (am_r32 p) h
    | ⟨3, _⟩, h => am_p0S (am_r33 p) h
  | lstore_n k => exact match k, h with
    | ⟨0, _⟩, h => am_p0S (am_r63 p) h
    | ⟨1, _⟩, h => am_p0S (am_r64 p) h
    | ⟨2, _⟩, h => am_p0S (am_r65 p) h
    | ⟨3, _⟩, h => am_p0S (am_r66 p) h
  | aload k => exact am_pUS (am_r25 p) h
  | astore k => exact am_pUS (am_r58 p) h
  | iload k => exact am_pUS (am_r21 p) h
  | istore k => exact am_pUS (am_r54 p) h
  | ldc k => exact am_pUS (am_r18 p) h
  | lload k => exact am_pUS (am_r22 p) h
  | lstore k => exact am_pUS (am_r55 p) h
  | bipush k => exact am_pSS (am_r16 p) h
  | anewarray k => exact am_pVS (am_r189 p) h
  | getfield k => exact am_pVS (am_r180 p) h
  | invokespecial k => exact am_pVS (am_r183 p) h
  | invokestatic k => exact am_pVS (am_r184 p) h
  | invokevirtual k => exact am_pVS (am_r182 p) h
  | ldc2_w k => exact am_pVS (am_r20 p) h
  | ldc_w k => exact am_pVS (am_r19 p) h
  | new k => exact am_pVS (am_r187 p) h
  | putfield k => exact am_pVS (am_r181 p) h
  | goto k => exact am_pTS (am_r167 p) h
  | ifnonnull k => exact am_pTS (am_r199 p) h
  | ifnull k => exact am_pTS (am_r198 p) h
  | sipush k => exact am_pTS (am_r17 p) h
  | ifCond q k => cases q with
    | eq => exact am_pTS (am_r153 p) h
    | ne => exact am_pTS (am_r154 p) h
    | lt => exact am_pTS (am_r155 p) h
    | ge => exact am_pTS (am_r156 p) h
    | gt => exact am_pTS (am_r157 p) h
    | le => exact am_pTS (am_r158 p) h
  | if_icmp q k => cases q with
    | eq => exact am_pTS (am_r159 p) h
    | ne => exact am_pTS (am_r160 p) h
    | lt => exact am_pTS (am_r161 p) h
    | ge => exact am_pTS (am_r162 p) h
    | gt => exact am_pTS (am_r163 p) h
    | le => exact am_pTS (am_r164 p) h
  | iinc k j => exact am_pKS (am_r132 p) h
  | iconst z => exact match z, h with
    | .ofNat 0, h => am_p0S (am_r3 p) h
    | .ofNat 1, h => am_p0S (am_r4 p) h
    | .ofNat 2, h => am_p0S (am_r5 p) h
    | .ofNat 3, h => am_p0S (am_r6 p) h
    | .ofNat 4, h => am_p0S (am_r7 p) h
    | .ofNat 5, h => am_p0S (am_r8 p) h
    | .negSucc 0, h => am_p0S (am_r2 p) h
    | .ofNat (m + 6), h => (Bool.false_ne_true h).elim
    | .negSucc (m + 1), h => (Bool.false_ne_true h).elim
  | _ => exact (Bool.false_ne_true h).elim
/-- a row: held against the bytes, or decoded -/
def am_fS (c : ByteArray) (l : List UInt8) (r : Nat × Instr × Nat) : Bool := am_ze r.2.1 r.2.2 l || decide (decode c r.1 = .ok (r.2.1, r.2.2))
def am_wk (c : ByteArray) (rs : List (Nat × Instr × Nat)) : Nat → List UInt8 → Bool := match rs with
  | [] => fun _ _ => true
  | r :: rs => fun p l => Nat.beq p r.1 && (am_fS c l r && am_wk c rs (r.1 + r.2.2) (l.drop r.2.2))
def am_fW (c : ByteArray) (rs : List (Nat × Instr × Nat)) : Bool := match rs with
  | [] => true
  | r :: _ => am_wk c rs r.1 (c.data.toList.drop r.1)
theorem am_wkS {c : ByteArray} : ∀ (rs : List (Nat × Instr × Nat)) (p : Nat), am_wk c rs p (c.data.toList.drop p) = true → ∀ r ∈ rs, decode c r.1 = .ok (r.2.1, r.2.2) := by
  intro rs
  induction rs with
  | nil => intro p _ r hr; cases hr
  | cons r rs ih =>
    intro p h q hq
    have h : (Nat.beq p r.1 && (am_fS c (c.data.toList.drop p) r && am_wk c rs (r.1 + r.2.2) ((c.data.toList.drop p).drop r.2.2))) = true := h
    rw [Bool.and_eq_true, Bool.and_eq_true] at h
    obtain ⟨h1, h2, h3⟩ := h
    have e := Nat.eq_of_beq_eq_true h1
    subst e
    rcases List.mem_cons.mp hq with e | hq
    · rw [e]
      unfold am_fS at h2
      rw [Bool.or_eq_true] at h2
      rcases h2 with h2 | h2
      · exact am_zeS h2
      · exact of_decide_eq_true h2
    · rw [List.drop_drop] at h3
      exact ih _ h3 q hq
theorem am_fWS {c : ByteArray} {rs : List (Nat × Instr × Nat)} (h : am_fW c rs = true) : ∀ r ∈ rs, decode c r.1 = .ok (r.2.1, r.2.2) := by
  cases rs with
  | nil => intro r hr; cases hr
  | cons r rs => exact am_wkS (r :: rs) r.1 h
def am_fJ (j : Nat) : Bool := am_fW (T_code j) (T_insL.getD j [])
theorem am_fJI {j : Nat} (h : am_fJ j = true) : am_fI j = true := List.all_eq_true.mpr fun r hr => decide_eq_true (am_fWS h r hr)
theorem am_fWI {j : Nat} {rs : List (Nat × Instr × Nat)} (h : am_fW (T_code j) rs = true) : rs.all (am_fR j) = true := List.all_eq_true.mpr fun r hr => decide_eq_true (am_fWS h r hr)
theorem T_q0 : ∀ j, j < 7 → am_fI (0 + j) = true := fun j hj => am_fJI ((by decide +kernel : ∀ j, j < 7 → am_fJ (0 + j) = true) j hj)
theorem T_q1 : ∀ j, j < 6 → am_fI (7 + j) = true := fun j hj => am_fJI ((by decide +kernel : ∀ j, j < 6 → am_fJ (7 + j) = true) j hj)
theorem T_q2 : ∀ j, j < 9 → am_fI (13 + j) = true := fun j hj => am_fJI ((by decide +kernel : ∀ j, j < 9 → am_fJ (13 + j) = true) j hj)
theorem T_q3 : ∀ j, j < 10 → am_fI (22 + j) = true := fun j hj => am_fJI ((by decide +kernel : ∀ j, j < 10 → am_fJ (22 + j) = true) j hj)
theorem T_q4 : ∀ j, j < 7 → am_fI (32 + j) = true := fun j hj => am_fJI ((by decide +kernel : ∀ j, j < 7 → am_fJ (32 + j) = true) j hj)
theorem T_q5 : ∀ j, j < 9 → am_fI (39 + j) = true := fun j hj => am_fJI ((by decide +kernel : ∀ j, j < 9 → am_fJ (39 + j) = true) j hj)
theorem T_q6 : ∀ j, j < 9 → am_fI (48 + j) = true := fun j hj => am_fJI ((by decide +kernel : ∀ j, j < 9 → am_fJ (48 + j) = true) j hj)
theorem T_q7 : ∀ j, j < 7 → am_fI (57 + j) = true := fun j hj => am_fJI ((by decide +kernel : ∀ j, j < 7 → am_fJ (57 + j) = true) j hj)
theorem T_q8 : ∀ j, j < 10 → am_fI (64 + j) = true := fun j hj => am_fJI ((by decide +kernel : ∀ j, j < 10 → am_fJ (64 + j) = true) j hj)
theorem T_q9 : ∀ j, j < 7 → am_fI (74 + j) = true := fun j hj => am_fJI ((by decide +kernel : ∀ j, j < 7 → am_fJ (74 + j) = true) j hj)
theorem T_q10 : ∀ j, j < 8 → am_fI (81 + j) = true := fun j hj => am_fJI ((by decide +kernel : ∀ j, j < 8 → am_fJ (81 + j) = true) j hj)
theorem T_q11 : ∀ j, j < 9 → am_fI (89 + j) = true := fun j hj => am_fJI ((by decide +kernel : ∀ j, j < 9 → am_fJ (89 + j) = true) j hj)
theorem T_q12 : ∀ j, j < 8 → am_fI (98 + j) = true := fun j hj => am_fJI ((by decide +kernel : ∀ j, j < 8 → am_fJ (98 + j) = true) j hj)
theorem T_q13 : ∀ j, j < 12 → am_fI (106 + j) = true := fun j hj => am_fJI ((by decide +kernel : ∀ j, j < 12 → am_fJ (106 + j) = true) j hj)
theorem T_q14 : ∀ j, j < 18 → am_fI (118 + j) = true := fun j hj => am_fJI ((by decide +kernel : ∀ j, j < 18 → am_fJ (118 + j) = true) j hj)
theorem T_q15 : ∀ j, j < 12 → am_fI (136 + j) = true := fun j hj => am_fJI ((by decide +kernel : ∀ j, j < 12 → am_fJ (136 + j) = true) j hj)
theorem T_q16 : ∀ j, j < 5 → am_fI (148 + j) = true := fun j hj => am_fJI ((by decide +kernel : ∀ j, j < 5 → am_fJ (148 + j) = true) j hj)
theorem T_q17 : ∀ j, j < 5 → am_fI (153 + j) = true := fun j hj => am_fJI ((by decide +kernel : ∀ j, j < 5 → am_fJ (153 + j) = true) j hj)
theorem T_q18 : ∀ j, j < 10 → am_fI (158 + j) = true := fun j hj => am_fJI ((by decide +kernel : ∀ j, j < 10 → am_fJ (158 + j) = true) j hj)
theorem T_q19 : ∀ j, j < 5 → am_fI (168 + j) = true := fun j hj => am_fJI ((by decide +kernel : ∀ j, j < 5 → am_fJ (168 + j) = true) j hj)
theorem T_q20 : ∀ j, j < 6 → am_fI (173 + j) = true := fun j hj => am_fJI ((by decide +kernel : ∀ j, j < 6 → am_fJ (173 + j) = true) j hj)
theorem T_q21 : ∀ j, j < 7 → am_fI (179 + j) = true := fun j hj => am_fJI ((by decide +kernel : ∀ j, j < 7 → am_fJ (179 + j) = true) j hj)
theorem T_q22 : ∀ j, j < 7 → am_fI (186 + j) = true := fun j hj => am_fJI ((by decide +kernel : ∀ j, j < 7 → am_fJ (186 + j) = true) j hj)
theorem T_q23 : ∀ j, j < 6 → am_fI (193 + j) = true := fun j hj => am_fJI ((by decide +kernel : ∀ j, j < 6 → am_fJ (193 + j) = true) j hj)
theorem T_q24 : ∀ j, j < 7 → am_fI (199 + j) = true := fun j hj => am_fJI ((by decide +kernel : ∀ j, j < 7 → am_fJ (199 + j) = true) j hj)
theorem T_q25 : ∀ j, j < 9 → am_fI (206 + j) = true := fun j hj => am_fJI ((by decide +kernel : ∀ j, j < 9 → am_fJ (206 + j) = true) j hj)
theorem T_q26 : ∀ j, j < 4 → am_fI (215 + j) = true := fun j hj => am_fJI ((by decide +kernel : ∀ j, j < 4 → am_fJ (215 + j) = true) j hj)
theorem T_q27 : ∀ j, j < 3 → am_fI (219 + j) = true := fun j hj => am_fJI ((by decide +kernel : ∀ j, j < 3 → am_fJ (219 + j) = true) j hj)
theorem T_q28 : ∀ j, j < 8 → am_fI (222 + j) = true := fun j hj => am_fJI ((by decide +kernel : ∀ j, j < 8 → am_fJ (222 + j) = true) j hj)
theorem T_q29 : ∀ j, j < 1 → am_fI (230 + j) = true := fun j hj => am_fJI ((by decide +kernel : ∀ j, j < 1 → am_fJ (230 + j) = true) j hj)
theorem T_q31 : ∀ j, j < 5 → am_fI (232 + j) = true := fun j hj => am_fJI ((by decide +kernel : ∀ j, j < 5 → am_fJ (232 + j) = true) j hj)
