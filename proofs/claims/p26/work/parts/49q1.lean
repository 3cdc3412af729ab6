/-- the second relation of this row -/
theorem Co.lo {I I1 : Nat → Nat → Int32} (hI : Inv I1) (h : ∀ a, a < 105 → I1 a = I a) (hc : Co I) : Co I1 := hc.of (lo_sm hI h) (fun k _ _ => by rw [h 88 (by omega)])
theorem Fj.co {I I1 : Nat → Nat → Int32} (h : Fj I I1) (hI : Inv I) (hc : Co I) : Co I1 := by
  rcases h.2 with q | q
  · exact hc.of (q.q hI) (fun k _ _ => q.1 88 k (by omega) (by omega))
  · exact fun p => absurd q.2.2 p
abbrev Kq (I : Nat → Nat → Int32) : Prop := Wf I ∧ Bl I ∧ Cf I ∧ Co I
theorem Kq.kl : KL Kq := fun _ _ hi h k => ⟨k.1.lo h, k.2.1.lo h, k.2.2.1.lo hi h, k.2.2.2.lo hi h⟩
theorem Kq.st {I : Nat → Nat → Int32} (h : Kst I) : Kq I := ⟨Wf.emp h.1, fun q hq => Or.inl (h.2.1 q hq), fun q => absurd h.2.2.1 q, fun q => absurd h.2.2.2.2 q⟩
theorem Kq.fj {I I1 : Nat → Nat → Int32} (hI : Inv I) (h : Fj I I1) (hk : Kq I) : Kq I1 := ⟨h.1.1, h.1.2, h.cf hI hk.2.2.1, h.co hI hk.2.2.2⟩
def Ex (a k : Nat) : Prop := (83 ≤ a ∧ a ≤ 86) ∨ (a = 88 ∧ 1 ≤ k ∧ k ≤ 3)
/-! SCRATCH, but for what is held for known -/
def Sx (a k : Nat) : Prop := Sc a k ∧ ¬ Ex a k
def sk (I I' : Nat → Nat → Int32) : Prop := ∀ a k, ¬ Sx a k → I' a k = I a k
theorem sk.rf {I : Nat → Nat → Int32} : sk I I := fun _ _ _ => rfl
theorem sk.tr {I I' I'' : Nat → Nat → Int32} (h : sk I I') (h' : sk I' I'') : sk I I'' := fun a k q => (h' a k q).trans (h a k q)
theorem sk.up {I I' : Nat → Nat → Int32} {a k : Nat} {v : Int32} (h : sk I I') (hs : Sx a k) : sk I (am_up I' a k v) := by
  intro c j hc
  rw [← h c j hc, am_upv]
  split
  · rename_i e
    rw [e.1, e.2] at hc
    exact absurd hs hc
  · rfl
theorem sk.fil {I I' : Nat → Nat → Int32} {a n : Nat} {v : Int32} (h : sk I I') (hs : ∀ k, Sx a k) : sk I (am_fil I' a n v) := by
  intro c j hc
  rw [← h c j hc, am_filv]
  split
  · rename_i e
    rw [e.1] at hc
    exact absurd (hs j) hc
  · rfl
theorem sk.sm {I I' : Nat → Nat → Int32} (h : sk I I') : sm I I' := fun a k q => h a k (fun p => q p.1)
theorem Inv.sk {I I' : Nat → Nat → Int32} (hI : Inv I) (h : sk I I') : Inv I' := hI.sm h.sm
theorem sm.vw {I I' : Nat → Nat → Int32} (h : sm I I') : vw I I' := fun a k q => h a k (nSc (by omega))
theorem Kq.sk {I I' : Nat → Nat → Int32} (hI : Inv I) (h : sk I I') (hk : Kq I) : Kq I' := ⟨h.sm.vw.wf hk.1, h.sm.vw.bl hk.2.1, hk.2.2.1.of (h.sm.vw.q hI) (fun a k h1 h2 => h a k (fun q => q.2 (by unfold Ex; omega))), hk.2.2.2.of (h.sm.vw.q hI) (fun k h1 h2 => h 88 k (fun q => q.2 (by unfold Ex; omega)))⟩
/-- both relations -/
def InvC (I : Nat → Nat → Int32) : Prop := Inv I ∧ Kq I
theorem sk.c {I I' : Nat → Nat → Int32} (h : sk I I') (hI : InvC I) : InvC I' := ⟨hI.1.sk h, Kq.sk hI.1 h hI.2⟩
def rk (I I' : Nat → Nat → Int32) : Prop := InvC I → InvC I'
theorem rk.rf {I : Nat → Nat → Int32} : rk I I := fun h => h
theorem rk.tr {I I' I'' : Nat → Nat → Int32} (h : rk I I') (h' : rk I' I'') : rk I I'' := fun q => h' (h q)
theorem rk.up {I I' : Nat → Nat → Int32} {a k : Nat} {v : Int32} (h : rk I I') (hs : Sx a k) : rk I (am_up I' a k v) := fun q => (sk.rf.up hs).c (h q)
theorem InvC.rk {I I' : Nat → Nat → Int32} (hI : InvC I) (h : rk I I') : InvC I' := h hI
theorem InvC.ixHs {I : Nat → Nat → Int32} (h : InvC I) {x : Int32} (hp : ¬ v_isHouse I x = 0) : am_ix x 8 := h.1.ixHs hp
theorem InvC.ixRep {I : Nat → Nat → Int32} (h : InvC I) {x : Int32} (hp : ¬ v_isReport I x = 0) : am_ix x 40 := h.1.ixRep hp
theorem InvC.ixP {I : Nat → Nat → Int32} (h : InvC I) {a : Nat} (ha : am_isH a) {x : Int32} (hp : ¬ v_hasPillar I a x = 0) : am_ix x 6 := h.1.ixP ha hp
theorem InvC.ixFd {I : Nat → Nat → Int32} (h : InvC I) {x : Int32} (h1 : ¬ x < 0) (h2 : ¬ I 1 1 ≤ x) : am_ix x 8 := h.1.ixFd h1 h2
theorem InvC.ixBk {I : Nat → Nat → Int32} (h : InvC I) {x : Int32} (h1 : ¬ x < 0) (h2 : ¬ I 35 2 ≤ x) : am_ix x 40 := h.1.ixBk h1 h2
