theorem s88_0 {X : am_X} {d : Nat} {v0 v2 v3 v4 v5 v6 v7 v8 v9 v10 : Value} {x : Int32} {σ : am_M} {st : List Value} {Q : Option Value → am_M → Prop} (k : am_wp X d 88 1 [v0, .int x, v2, v3, v4, v5, v6, v7, v8, v9, v10] (.int x :: st) σ Q) : am_wp X d 88 0 [v0, .int x, v2, v3, v4, v5, v6, v7, v8, v9, v10] st σ Q := g_iln (i := 1) (by decide +kernel) rfl k
theorem s88_1 {X : am_X} {d : Nat} {v0 v1 v3 v4 v5 v6 v7 v8 v9 v10 : Value} {x : Int32} {σ : am_M} {st : List Value} {Q : Option Value → am_M → Prop} (k : am_wp X d 88 2 [v0, v1, .int x, v3, v4, v5, v6, v7, v8, v9, v10] (.int x :: st) σ Q) : am_wp X d 88 1 [v0, v1, .int x, v3, v4, v5, v6, v7, v8, v9, v10] st σ Q := g_iln (i := 2) (by decide +kernel) rfl k
theorem s88_2 {X : am_X} {d : Nat} {v0 v1 v2 v4 v5 v6 v7 v8 v9 v10 : Value} {x : Int32} {σ : am_M} {st : List Value} {Q : Option Value → am_M → Prop} (k : am_wp X d 88 3 [v0, v1, v2, .int x, v4, v5, v6, v7, v8, v9, v10] (.int x :: st) σ Q) : am_wp X d 88 2 [v0, v1, v2, .int x, v4, v5, v6, v7, v8, v9, v10] st σ Q := g_iln (i := 3) (by decide +kernel) rfl k
theorem s88_3 {X : am_X} {d : Nat} {v0 v1 v2 v3 v5 v6 v7 v8 v9 v10 : Value} {x : Int32} {σ : am_M} {st : List Value} {Q : Option Value → am_M → Prop} (k : am_wp X d 88 5 [v0, v1, v2, v3, .int x, v5, v6, v7, v8, v9, v10] (.int x :: st) σ Q) : am_wp X d 88 3 [v0, v1, v2, v3, .int x, v5, v6, v7, v8, v9, v10] st σ Q := g_il (i := 4) (by decide +kernel) rfl k
theorem s88_5 {X : am_X} {d : Nat} {v0 v1 v2 v3 v4 v6 v7 v8 v9 v10 : Value} {x : Int32} {σ : am_M} {st : List Value} {Q : Option Value → am_M → Prop} (k : am_wp X d 88 7 [v0, v1, v2, v3, v4, .int x, v6, v7, v8, v9, v10] (.int x :: st) σ Q) : am_wp X d 88 5 [v0, v1, v2, v3, v4, .int x, v6, v7, v8, v9, v10] st σ Q := g_il (i := 5) (by decide +kernel) rfl k
theorem s88_7 {X : am_X} {d : Nat} {ls : List Value} {y0 : Int32} {y1 : Int32} {y2 : Int32} {y3 : Int32} {y4 : Int32} {σ : am_M} {st : List Value} {Q : Option Value → am_M → Prop} (hr : (st.map fun v => v.category).sum ≤ 8) (k : am_wp X d 129 0 [.int y0, .int y1, .int y2, .int y3, .int y4] [] σ (fun v σ' => am_wp X (d + 1) 88 10 ls (v.toList ++ st) σ' Q)) : am_wp X (d + 1) 88 7 ls (.int y4 :: .int y3 :: .int y2 :: .int y1 :: .int y0 :: st) σ Q := g_cs (k := 173) (kd := 0) (m := 129) (n := 5) (mx := 5) (as := [.int y0, .int y1, .int y2, .int y3, .int y4]) (r := st) (en := [.int y0, .int y1, .int y2, .int y3, .int y4]) (by decide +kernel) (by decide +kernel) (by decide) (by decide +kernel) rfl (Nat.le_of_ble_eq_true rfl) rfl rfl hr k
theorem s88_10 {X : am_X} {d : Nat} {ls : List Value} {x : Int32} {σ : am_M} {st : List Value} {Q : Option Value → am_M → Prop} (kt : x = 0 → am_wp X d 88 21 ls st σ Q) (kf : ¬ x = 0 → am_wp X d 88 13 ls st σ Q) : am_wp X d 88 10 ls (.int x :: st) σ Q := Eq.mpr (r_eq (off := 11) (t := 21) (by decide +kernel) (by decide)) (am_spl kt kf)
theorem s88_13 {X : am_X} {d : Nat} {v0 v1 v2 v3 v4 v5 v7 v8 v9 v10 : Value} {x : Int32} {σ : am_M} {st : List Value} {Q : Option Value → am_M → Prop} (k : am_wp X d 88 15 [v0, v1, v2, v3, v4, v5, .int x, v7, v8, v9, v10] (.int x :: st) σ Q) : am_wp X d 88 13 [v0, v1, v2, v3, v4, v5, .int x, v7, v8, v9, v10] st σ Q := g_il (i := 6) (by decide +kernel) rfl k
theorem s88_15 {X : am_X} {d : Nat} {ls : List Value} {y0 : Int32} {σ : am_M} {st : List Value} {Q : Option Value → am_M → Prop} (hr : (st.map fun v => v.category).sum ≤ 8) (k : am_wp X d 127 0 [.int y0] [] σ (fun v σ' => am_wp X (d + 1) 88 18 ls (v.toList ++ st) σ' Q)) : am_wp X (d + 1) 88 15 ls (.int y0 :: st) σ Q := g_cs (k := 195) (kd := 0) (m := 127) (n := 1) (mx := 1) (as := [.int y0]) (r := st) (en := [.int y0]) (by decide +kernel) (by decide +kernel) (by decide) (by decide +kernel) rfl (Nat.le_of_ble_eq_true rfl) rfl rfl hr k
theorem s88_18 {X : am_X} {d : Nat} {ls : List Value} {x : Int32} {σ : am_M} {st : List Value} {Q : Option Value → am_M → Prop} (kt : x = 0 → am_wp X d 88 21 ls st σ Q) (kf : ¬ x = 0 → am_wp X d 88 24 ls st σ Q) : am_wp X d 88 18 ls (.int x :: st) σ Q := Eq.mpr (r_ne (off := 6) (t := 24) (by decide +kernel) (by decide)) (am_spl kt kf)
theorem s88_21 {X : am_X} {d : Nat} {ls : List Value} {σ : am_M} {st : List Value} {Q : Option Value → am_M → Prop} (k : am_wp X d 88 23 ls (.int (-2) :: st) σ Q) : am_wp X d 88 21 ls st σ Q := Eq.mpr (r_bp (z := (-2)) (v := (-2)) (by decide +kernel) (by decide +kernel)) k
theorem s88_23 {X : am_X} {d : Nat} {ls : List Value} {v : Int32} {σ : am_M} {Q : Option Value → am_M → Prop} (k : Q (some (.int v)) σ) : am_wp X d 88 23 ls [.int v] σ Q := Eq.mpr (r_iret (by decide +kernel) (by decide +kernel)) k
theorem s88_24 {X : am_X} {d : Nat} {v1 v2 v3 v4 v5 v6 v7 v8 v9 v10 : Value} {x : Nat} {σ : am_M} {st : List Value} {Q : Option Value → am_M → Prop} (k : am_wp X d 88 25 [.ref x, v1, v2, v3, v4, v5, v6, v7, v8, v9, v10] (.ref x :: st) σ Q) : am_wp X d 88 24 [.ref x, v1, v2, v3, v4, v5, v6, v7, v8, v9, v10] st σ Q := g_aln (i := 0) (by decide +kernel) rfl k
theorem s88_24n {X : am_X} {d : Nat} {v1 v2 v3 v4 v5 v6 v7 v8 v9 v10 : Value} {σ : am_M} {st : List Value} {Q : Option Value → am_M → Prop} (k : am_wp X d 88 25 [.null, v1, v2, v3, v4, v5, v6, v7, v8, v9, v10] (.null :: st) σ Q) : am_wp X d 88 24 [.null, v1, v2, v3, v4, v5, v6, v7, v8, v9, v10] st σ Q := g_aln0 (i := 0) (by decide +kernel) rfl k
theorem s88_25 {X : am_X} {d : Nat} {ls : List Value} {a b : Nat} {I : Nat → Nat → Int32} {J : Nat → Nat → Int64} {st : List Value} {Q : Option Value → am_M → Prop} (h : am_K0[a]? = some (9, 9)) (hp : am_pg am_P0 a 5 = some b) (k : am_wp X d 88 28 ls (.ref b :: st) (am_N I J) Q) : am_wp X d 88 25 ls (.ref a :: st) (am_N I J) Q := Eq.mpr (r_get (k := 55) (ci := 9) (f := 5) (p := 435) (v := .ref b) (by decide +kernel) (by decide +kernel) (am_far hp (by decide +kernel)) h) k
theorem s88_28 {X : am_X} {d : Nat} {ls : List Value} {a : Nat} {I : Nat → Nat → Int32} {J : Nat → Nat → Int64} {st : List Value} {Q : Option Value → am_M → Prop} (h : am_K0[a]? = some (1, 5)) (hr : (st.map fun v => v.category).sum ≤ 8) (k : am_wp X d 16 0 [.ref a] [] (am_N I J) (fun v σ' => am_wp X (d + 1) 88 31 ls (v.toList ++ st) σ' Q)) : am_wp X (d + 1) 88 28 ls (.ref a :: st) (am_N I J) Q := g_cv (k := 198) (m := 16) (n := 0) (mx := 1) (a := a) (o := 1) (nf := 5) (as := []) (r := st) (en := [.ref a]) (by decide +kernel) (by decide +kernel) (by decide +kernel) (by decide +kernel) (by decide +kernel) h rfl (Nat.le_of_ble_eq_true rfl) rfl rfl hr k
theorem s88_31 {X : am_X} {d : Nat} {ls : List Value} {x : Int32} {σ : am_M} {st : List Value} {Q : Option Value → am_M → Prop} (kt : x = 0 → am_wp X d 88 37 ls st σ Q) (kf : ¬ x = 0 → am_wp X d 88 34 ls st σ Q) : am_wp X d 88 31 ls (.int x :: st) σ Q := Eq.mpr (r_eq (off := 6) (t := 37) (by decide +kernel) (by decide)) (am_spl kt kf)
theorem s88_34 {X : am_X} {d : Nat} {ls : List Value} {σ : am_M} {st : List Value} {Q : Option Value → am_M → Prop} (k : am_wp X d 88 36 ls (.int (-4) :: st) σ Q) : am_wp X d 88 34 ls st σ Q := Eq.mpr (r_bp (z := (-4)) (v := (-4)) (by decide +kernel) (by decide +kernel)) k
theorem s88_36 {X : am_X} {d : Nat} {ls : List Value} {v : Int32} {σ : am_M} {Q : Option Value → am_M → Prop} (k : Q (some (.int v)) σ) : am_wp X d 88 36 ls [.int v] σ Q := Eq.mpr (r_iret (by decide +kernel) (by decide +kernel)) k
theorem s88_37 {X : am_X} {d : Nat} {ls : List Value} {σ : am_M} {st : List Value} {Q : Option Value → am_M → Prop} (k : am_wp X d 88 38 ls (.int 0 :: st) σ Q) : am_wp X d 88 37 ls st σ Q := Eq.mpr (r_ic (z := 0) (v := 0) (by decide +kernel) (by decide +kernel)) k
theorem s88_38 {X : am_X} {d : Nat} {v0 v1 v2 v3 v4 v5 v6 v7 v8 v9 v10 : Value} {x : Int32} {σ : am_M} {st : List Value} {Q : Option Value → am_M → Prop} (h : v6.category = 1) (k : am_wp X d 88 40 [v0, v1, v2, v3, v4, v5, v6, .int x, v8, v9, v10] st σ Q) : am_wp X d 88 38 [v0, v1, v2, v3, v4, v5, v6, v7, v8, v9, v10] (.int x :: st) σ Q := g_is (i := 7) (by decide +kernel) (Nat.le_of_ble_eq_true rfl) (Or.inr h) rfl k
theorem s88_40 {X : am_X} {d : Nat} {v0 v1 v2 v3 v4 v5 v6 v8 v9 v10 : Value} {x : Int32} {σ : am_M} {st : List Value} {Q : Option Value → am_M → Prop} (k : am_wp X d 88 42 [v0, v1, v2, v3, v4, v5, v6, .int x, v8, v9, v10] (.int x :: st) σ Q) : am_wp X d 88 40 [v0, v1, v2, v3, v4, v5, v6, .int x, v8, v9, v10] st σ Q := g_il (i := 7) (by decide +kernel) rfl k
theorem s88_42 {X : am_X} {d : Nat} {v1 v2 v3 v4 v5 v6 v7 v8 v9 v10 : Value} {x : Nat} {σ : am_M} {st : List Value} {Q : Option Value → am_M → Prop} (k : am_wp X d 88 43 [.ref x, v1, v2, v3, v4, v5, v6, v7, v8, v9, v10] (.ref x :: st) σ Q) : am_wp X d 88 42 [.ref x, v1, v2, v3, v4, v5, v6, v7, v8, v9, v10] st σ Q := g_aln (i := 0) (by decide +kernel) rfl k
theorem s88_42n {X : am_X} {d : Nat} {v1 v2 v3 v4 v5 v6 v7 v8 v9 v10 : Value} {σ : am_M} {st : List Value} {Q : Option Value → am_M → Prop} (k : am_wp X d 88 43 [.null, v1, v2, v3, v4, v5, v6, v7, v8, v9, v10] (.null :: st) σ Q) : am_wp X d 88 42 [.null, v1, v2, v3, v4, v5, v6, v7, v8, v9, v10] st σ Q := g_aln0 (i := 0) (by decide +kernel) rfl k
theorem s88_43 {X : am_X} {d : Nat} {ls : List Value} {a b : Nat} {I : Nat → Nat → Int32} {J : Nat → Nat → Int64} {st : List Value} {Q : Option Value → am_M → Prop} (h : am_K0[a]? = some (9, 9)) (hp : am_pg am_P0 a 0 = some b) (k : am_wp X d 88 46 ls (.ref b :: st) (am_N I J) Q) : am_wp X d 88 43 ls (.ref a :: st) (am_N I J) Q := Eq.mpr (r_get (k := 12) (ci := 9) (f := 0) (p := 430) (v := .ref b) (by decide +kernel) (by decide +kernel) (am_far hp (by decide +kernel)) h) k
theorem s88_46 {X : am_X} {d : Nat} {ls : List Value} {a : Nat} {I : Nat → Nat → Int32} {J : Nat → Nat → Int64} {st : List Value} {Q : Option Value → am_M → Prop} (h : am_K0[a]? = some (5, 2)) (k : am_wp X d 88 49 ls (.int (I a 1) :: st) (am_N I J) Q) : am_wp X d 88 46 ls (.ref a :: st) (am_N I J) Q := Eq.mpr (r_get (k := 199) (ci := 5) (f := 1) (p := 185) (by decide +kernel) (by decide +kernel) rfl h) k
theorem s88_49 {X : am_X} {d : Nat} {ls : List Value} {x y : Int32} {σ : am_M} {st : List Value} {Q : Option Value → am_M → Prop} (kt : y ≤ x → am_wp X d 88 141 ls st σ Q) (kf : ¬ y ≤ x → am_wp X d 88 52 ls st σ Q) : am_wp X d 88 49 ls (.int y :: .int x :: st) σ Q := Eq.mpr (r_cge (off := 92) (t := 141) (by decide +kernel) (by decide)) (am_spl kt kf)
theorem s88_52 {X : am_X} {d : Nat} {v1 v2 v3 v4 v5 v6 v7 v8 v9 v10 : Value} {x : Nat} {σ : am_M} {st : List Value} {Q : Option Value → am_M → Prop} (k : am_wp X d 88 53 [.ref x, v1, v2, v3, v4, v5, v6, v7, v8, v9, v10] (.ref x :: st) σ Q) : am_wp X d 88 52 [.ref x, v1, v2, v3, v4, v5, v6, v7, v8, v9, v10] st σ Q := g_aln (i := 0) (by decide +kernel) rfl k
theorem s88_52n {X : am_X} {d : Nat} {v1 v2 v3 v4 v5 v6 v7 v8 v9 v10 : Value} {σ : am_M} {st : List Value} {Q : Option Value → am_M → Prop} (k : am_wp X d 88 53 [.null, v1, v2, v3, v4, v5, v6, v7, v8, v9, v10] (.null :: st) σ Q) : am_wp X d 88 52 [.null, v1, v2, v3, v4, v5, v6, v7, v8, v9, v10] st σ Q := g_aln0 (i := 0) (by decide +kernel) rfl k
theorem s88_53 {X : am_X} {d : Nat} {ls : List Value} {a b : Nat} {I : Nat → Nat → Int32} {J : Nat → Nat → Int64} {st : List Value} {Q : Option Value → am_M → Prop} (h : am_K0[a]? = some (9, 9)) (hp : am_pg am_P0 a 0 = some b) (k : am_wp X d 88 56 ls (.ref b :: st) (am_N I J) Q) : am_wp X d 88 53 ls (.ref a :: st) (am_N I J) Q := Eq.mpr (r_get (k := 12) (ci := 9) (f := 0) (p := 430) (v := .ref b) (by decide +kernel) (by decide +kernel) (am_far hp (by decide +kernel)) h) k
theorem s88_56 {X : am_X} {d : Nat} {ls : List Value} {a b : Nat} {I : Nat → Nat → Int32} {J : Nat → Nat → Int64} {st : List Value} {Q : Option Value → am_M → Prop} (h : am_K0[a]? = some (5, 2)) (hp : am_pg am_P0 a 0 = some b) (k : am_wp X d 88 59 ls (.ref b :: st) (am_N I J) Q) : am_wp X d 88 56 ls (.ref a :: st) (am_N I J) Q := Eq.mpr (r_get (k := 202) (ci := 5) (f := 0) (p := 181) (v := .ref b) (by decide +kernel) (by decide +kernel) (am_far hp (by decide +kernel)) h) k
theorem s88_59 {X : am_X} {d : Nat} {v0 v1 v2 v3 v4 v5 v6 v8 v9 v10 : Value} {x : Int32} {σ : am_M} {st : List Value} {Q : Option Value → am_M → Prop} (k : am_wp X d 88 61 [v0, v1, v2, v3, v4, v5, v6, .int x, v8, v9, v10] (.int x :: st) σ Q) : am_wp X d 88 59 [v0, v1, v2, v3, v4, v5, v6, .int x, v8, v9, v10] st σ Q := g_il (i := 7) (by decide +kernel) rfl k
theorem s88_61 {X : am_X} {d : Nat} {ls : List Value} {a b c n : Nat} {x : Int32} {I : Nat → Nat → Int32} {J : Nat → Nat → Int64} {st : List Value} {Q : Option Value → am_M → Prop} (h : am_K0[a]? = some (c, n)) (hc : 52 ≤ c ∧ c < 52 + T_arr.length) (hx : am_ix x n) (hp : am_pg am_P0 a x.toNatClampNeg = some b) (k : am_wp X d 88 62 ls (.ref b :: st) (am_N I J) Q) : am_wp X d 88 61 ls (.int x :: .ref a :: st) (am_N I J) Q := Eq.mpr (r_aal (by decide +kernel) h hc hx) (by rw [hp]; exact k)
theorem s88_62 {X : am_X} {d : Nat} {v0 v1 v2 v3 v4 v5 v6 v7 v8 v9 v10 : Value} {x : Nat} {σ : am_M} {st : List Value} {Q : Option Value → am_M → Prop} (h : v7.category = 1) (k : am_wp X d 88 64 [v0, v1, v2, v3, v4, v5, v6, v7, .ref x, v9, v10] st σ Q) : am_wp X d 88 62 [v0, v1, v2, v3, v4, v5, v6, v7, v8, v9, v10] (.ref x :: st) σ Q := g_as (i := 8) (by decide +kernel) (Nat.le_of_ble_eq_true rfl) (Or.inr h) rfl k
theorem s88_62n {X : am_X} {d : Nat} {v0 v1 v2 v3 v4 v5 v6 v7 v8 v9 v10 : Value} {σ : am_M} {st : List Value} {Q : Option Value → am_M → Prop} (h : v7.category = 1) (k : am_wp X d 88 64 [v0, v1, v2, v3, v4, v5, v6, v7, .null, v9, v10] st σ Q) : am_wp X d 88 62 [v0, v1, v2, v3, v4, v5, v6, v7, v8, v9, v10] (.null :: st) σ Q := g_as0 (i := 8) (by decide +kernel) (Nat.le_of_ble_eq_true rfl) (Or.inr h) rfl k
theorem s88_64 {X : am_X} {d : Nat} {v0 v1 v2 v3 v4 v5 v6 v7 v9 v10 : Value} {x : Nat} {σ : am_M} {st : List Value} {Q : Option Value → am_M → Prop} (k : am_wp X d 88 66 [v0, v1, v2, v3, v4, v5, v6, v7, .ref x, v9, v10] (.ref x :: st) σ Q) : am_wp X d 88 64 [v0, v1, v2, v3, v4, v5, v6, v7, .ref x, v9, v10] st σ Q := g_al (i := 8) (by decide +kernel) rfl k
theorem s88_64n {X : am_X} {d : Nat} {v0 v1 v2 v3 v4 v5 v6 v7 v9 v10 : Value} {σ : am_M} {st : List Value} {Q : Option Value → am_M → Prop} (k : am_wp X d 88 66 [v0, v1, v2, v3, v4, v5, v6, v7, .null, v9, v10] (.null :: st) σ Q) : am_wp X d 88 64 [v0, v1, v2, v3, v4, v5, v6, v7, .null, v9, v10] st σ Q := g_al0 (i := 8) (by decide +kernel) rfl k
theorem s88_66 {X : am_X} {d : Nat} {ls : List Value} {a : Nat} {I : Nat → Nat → Int32} {J : Nat → Nat → Int64} {st : List Value} {Q : Option Value → am_M → Prop} (h : am_K0[a]? = some (4, 15)) (k : am_wp X d 88 69 ls (.int (I a 1) :: st) (am_N I J) Q) : am_wp X d 88 66 ls (.ref a :: st) (am_N I J) Q := Eq.mpr (r_get (k := 177) (ci := 4) (f := 1) (p := 108) (by decide +kernel) (by decide +kernel) rfl h) k
theorem s88_69 {X : am_X} {d : Nat} {v0 v2 v3 v4 v5 v6 v7 v8 v9 v10 : Value} {x : Int32} {σ : am_M} {st : List Value} {Q : Option Value → am_M → Prop} (k : am_wp X d 88 70 [v0, .int x, v2, v3, v4, v5, v6, v7, v8, v9, v10] (.int x :: st) σ Q) : am_wp X d 88 69 [v0, .int x, v2, v3, v4, v5, v6, v7, v8, v9, v10] st σ Q := g_iln (i := 1) (by decide +kernel) rfl k
theorem s88_70 {X : am_X} {d : Nat} {ls : List Value} {x y : Int32} {σ : am_M} {st : List Value} {Q : Option Value → am_M → Prop} (k : am_wp X d 88 71 ls (.int (x - y) :: st) σ Q) : am_wp X d 88 70 ls (.int y :: .int x :: st) σ Q := g_isub (by decide +kernel) k
theorem s88_71 {X : am_X} {d : Nat} {v0 v1 v2 v3 v4 v5 v6 v7 v9 v10 : Value} {x : Nat} {σ : am_M} {st : List Value} {Q : Option Value → am_M → Prop} (k : am_wp X d 88 73 [v0, v1, v2, v3, v4, v5, v6, v7, .ref x, v9, v10] (.ref x :: st) σ Q) : am_wp X d 88 71 [v0, v1, v2, v3, v4, v5, v6, v7, .ref x, v9, v10] st σ Q := g_al (i := 8) (by decide +kernel) rfl k
theorem s88_71n {X : am_X} {d : Nat} {v0 v1 v2 v3 v4 v5 v6 v7 v9 v10 : Value} {σ : am_M} {st : List Value} {Q : Option Value → am_M → Prop} (k : am_wp X d 88 73 [v0, v1, v2, v3, v4, v5, v6, v7, .null, v9, v10] (.null :: st) σ Q) : am_wp X d 88 71 [v0, v1, v2, v3, v4, v5, v6, v7, .null, v9, v10] st σ Q := g_al0 (i := 8) (by decide +kernel) rfl k
theorem s88_73 {X : am_X} {d : Nat} {ls : List Value} {a : Nat} {I : Nat → Nat → Int32} {J : Nat → Nat → Int64} {st : List Value} {Q : Option Value → am_M → Prop} (h : am_K0[a]? = some (4, 15)) (k : am_wp X d 88 76 ls (.int (I a 2) :: st) (am_N I J) Q) : am_wp X d 88 73 ls (.ref a :: st) (am_N I J) Q := Eq.mpr (r_get (k := 180) (ci := 4) (f := 2) (p := 114) (by decide +kernel) (by decide +kernel) rfl h) k
theorem s88_76 {X : am_X} {d : Nat} {v0 v1 v3 v4 v5 v6 v7 v8 v9 v10 : Value} {x : Int32} {σ : am_M} {st : List Value} {Q : Option Value → am_M → Prop} (k : am_wp X d 88 77 [v0, v1, .int x, v3, v4, v5, v6, v7, v8, v9, v10] (.int x :: st) σ Q) : am_wp X d 88 76 [v0, v1, .int x, v3, v4, v5, v6, v7, v8, v9, v10] st σ Q := g_iln (i := 2) (by decide +kernel) rfl k
theorem s88_77 {X : am_X} {d : Nat} {ls : List Value} {x y : Int32} {σ : am_M} {st : List Value} {Q : Option Value → am_M → Prop} (k : am_wp X d 88 78 ls (.int (x - y) :: st) σ Q) : am_wp X d 88 77 ls (.int y :: .int x :: st) σ Q := g_isub (by decide +kernel) k
theorem s88_78 {X : am_X} {d : Nat} {v0 v1 v2 v4 v5 v6 v7 v8 v9 v10 : Value} {x : Int32} {σ : am_M} {st : List Value} {Q : Option Value → am_M → Prop} (k : am_wp X d 88 79 [v0, v1, v2, .int x, v4, v5, v6, v7, v8, v9, v10] (.int x :: st) σ Q) : am_wp X d 88 78 [v0, v1, v2, .int x, v4, v5, v6, v7, v8, v9, v10] st σ Q := g_iln (i := 3) (by decide +kernel) rfl k
theorem s88_79 {X : am_X} {d : Nat} {ls : List Value} {y0 : Int32} {y1 : Int32} {y2 : Int32} {σ : am_M} {st : List Value} {Q : Option Value → am_M → Prop} (hr : (st.map fun v => v.category).sum ≤ 8) (k : am_wp X d 131 0 [.int y0, .int y1, .int y2] [] σ (fun v σ' => am_wp X (d + 1) 88 82 ls (v.toList ++ st) σ' Q)) : am_wp X (d + 1) 88 79 ls (.int y2 :: .int y1 :: .int y0 :: st) σ Q := g_cs (k := 183) (kd := 0) (m := 131) (n := 3) (mx := 3) (as := [.int y0, .int y1, .int y2]) (r := st) (en := [.int y0, .int y1, .int y2]) (by decide +kernel) (by decide +kernel) (by decide) (by decide +kernel) rfl (Nat.le_of_ble_eq_true rfl) rfl rfl hr k
theorem s88_82 {X : am_X} {d : Nat} {v0 v1 v2 v3 v4 v5 v6 v7 v8 v9 v10 : Value} {x : Int32} {σ : am_M} {st : List Value} {Q : Option Value → am_M → Prop} (h : v8.category = 1) (k : am_wp X d 88 84 [v0, v1, v2, v3, v4, v5, v6, v7, v8, .int x, v10] st σ Q) : am_wp X d 88 82 [v0, v1, v2, v3, v4, v5, v6, v7, v8, v9, v10] (.int x :: st) σ Q := g_is (i := 9) (by decide +kernel) (Nat.le_of_ble_eq_true rfl) (Or.inr h) rfl k
theorem s88_84 {X : am_X} {d : Nat} {v0 v1 v2 v3 v4 v6 v7 v8 v9 v10 : Value} {x : Int32} {σ : am_M} {st : List Value} {Q : Option Value → am_M → Prop} (k : am_wp X d 88 86 [v0, v1, v2, v3, v4, .int x, v6, v7, v8, v9, v10] (.int x :: st) σ Q) : am_wp X d 88 84 [v0, v1, v2, v3, v4, .int x, v6, v7, v8, v9, v10] st σ Q := g_il (i := 5) (by decide +kernel) rfl k
theorem s88_86 {X : am_X} {d : Nat} {ls : List Value} {x : Int32} {σ : am_M} {st : List Value} {Q : Option Value → am_M → Prop} (kt : x = 0 → am_wp X d 88 89 ls st σ Q) (kf : ¬ x = 0 → am_wp X d 88 109 ls st σ Q) : am_wp X d 88 86 ls (.int x :: st) σ Q := Eq.mpr (r_ne (off := 23) (t := 109) (by decide +kernel) (by decide)) (am_spl kt kf)
theorem s88_89 {X : am_X} {d : Nat} {v0 v1 v2 v3 v4 v5 v6 v7 v9 v10 : Value} {x : Nat} {σ : am_M} {st : List Value} {Q : Option Value → am_M → Prop} (k : am_wp X d 88 91 [v0, v1, v2, v3, v4, v5, v6, v7, .ref x, v9, v10] (.ref x :: st) σ Q) : am_wp X d 88 89 [v0, v1, v2, v3, v4, v5, v6, v7, .ref x, v9, v10] st σ Q := g_al (i := 8) (by decide +kernel) rfl k
theorem s88_89n {X : am_X} {d : Nat} {v0 v1 v2 v3 v4 v5 v6 v7 v9 v10 : Value} {σ : am_M} {st : List Value} {Q : Option Value → am_M → Prop} (k : am_wp X d 88 91 [v0, v1, v2, v3, v4, v5, v6, v7, .null, v9, v10] (.null :: st) σ Q) : am_wp X d 88 89 [v0, v1, v2, v3, v4, v5, v6, v7, .null, v9, v10] st σ Q := g_al0 (i := 8) (by decide +kernel) rfl k
theorem s88_91 {X : am_X} {d : Nat} {ls : List Value} {a : Nat} {I : Nat → Nat → Int32} {J : Nat → Nat → Int64} {st : List Value} {Q : Option Value → am_M → Prop} (h : am_K0[a]? = some (4, 15)) (k : am_wp X d 88 94 ls (.int (I a 1) :: st) (am_N I J) Q) : am_wp X d 88 91 ls (.ref a :: st) (am_N I J) Q := Eq.mpr (r_get (k := 177) (ci := 4) (f := 1) (p := 108) (by decide +kernel) (by decide +kernel) rfl h) k
theorem s88_94 {X : am_X} {d : Nat} {v0 v2 v3 v4 v5 v6 v7 v8 v9 v10 : Value} {x : Int32} {σ : am_M} {st : List Value} {Q : Option Value → am_M → Prop} (k : am_wp X d 88 95 [v0, .int x, v2, v3, v4, v5, v6, v7, v8, v9, v10] (.int x :: st) σ Q) : am_wp X d 88 94 [v0, .int x, v2, v3, v4, v5, v6, v7, v8, v9, v10] st σ Q := g_iln (i := 1) (by decide +kernel) rfl k
theorem s88_95 {X : am_X} {d : Nat} {ls : List Value} {x y : Int32} {σ : am_M} {st : List Value} {Q : Option Value → am_M → Prop} (k : am_wp X d 88 96 ls (.int (x - y) :: st) σ Q) : am_wp X d 88 95 ls (.int y :: .int x :: st) σ Q := g_isub (by decide +kernel) k
theorem s88_96 {X : am_X} {d : Nat} {v0 v1 v2 v3 v4 v5 v6 v7 v9 v10 : Value} {x : Nat} {σ : am_M} {st : List Value} {Q : Option Value → am_M → Prop} (k : am_wp X d 88 98 [v0, v1, v2, v3, v4, v5, v6, v7, .ref x, v9, v10] (.ref x :: st) σ Q) : am_wp X d 88 96 [v0, v1, v2, v3, v4, v5, v6, v7, .ref x, v9, v10] st σ Q := g_al (i := 8) (by decide +kernel) rfl k
theorem s88_96n {X : am_X} {d : Nat} {v0 v1 v2 v3 v4 v5 v6 v7 v9 v10 : Value} {σ : am_M} {st : List Value} {Q : Option Value → am_M → Prop} (k : am_wp X d 88 98 [v0, v1, v2, v3, v4, v5, v6, v7, .null, v9, v10] (.null :: st) σ Q) : am_wp X d 88 96 [v0, v1, v2, v3, v4, v5, v6, v7, .null, v9, v10] st σ Q := g_al0 (i := 8) (by decide +kernel) rfl k
theorem s88_98 {X : am_X} {d : Nat} {ls : List Value} {a : Nat} {I : Nat → Nat → Int32} {J : Nat → Nat → Int64} {st : List Value} {Q : Option Value → am_M → Prop} (h : am_K0[a]? = some (4, 15)) (k : am_wp X d 88 101 ls (.int (I a 2) :: st) (am_N I J) Q) : am_wp X d 88 98 ls (.ref a :: st) (am_N I J) Q := Eq.mpr (r_get (k := 180) (ci := 4) (f := 2) (p := 114) (by decide +kernel) (by decide +kernel) rfl h) k
theorem s88_101 {X : am_X} {d : Nat} {v0 v1 v3 v4 v5 v6 v7 v8 v9 v10 : Value} {x : Int32} {σ : am_M} {st : List Value} {Q : Option Value → am_M → Prop} (k : am_wp X d 88 102 [v0, v1, .int x, v3, v4, v5, v6, v7, v8, v9, v10] (.int x :: st) σ Q) : am_wp X d 88 101 [v0, v1, .int x, v3, v4, v5, v6, v7, v8, v9, v10] st σ Q := g_iln (i := 2) (by decide +kernel) rfl k
theorem s88_102 {X : am_X} {d : Nat} {ls : List Value} {x y : Int32} {σ : am_M} {st : List Value} {Q : Option Value → am_M → Prop} (k : am_wp X d 88 103 ls (.int (x - y) :: st) σ Q) : am_wp X d 88 102 ls (.int y :: .int x :: st) σ Q := g_isub (by decide +kernel) k
theorem s88_103 {X : am_X} {d : Nat} {ls : List Value} {y0 : Int32} {y1 : Int32} {σ : am_M} {st : List Value} {Q : Option Value → am_M → Prop} (hr : (st.map fun v => v.category).sum ≤ 8) (k : am_wp X d 134 0 [.int y0, .int y1, am_uv, am_uv] [] σ (fun v σ' => am_wp X (d + 1) 88 106 ls (v.toList ++ st) σ' Q)) : am_wp X (d + 1) 88 103 ls (.int y1 :: .int y0 :: st) σ Q := g_cs (k := 189) (kd := 0) (m := 134) (n := 2) (mx := 4) (as := [.int y0, .int y1]) (r := st) (en := [.int y0, .int y1, am_uv, am_uv]) (by decide +kernel) (by decide +kernel) (by decide) (by decide +kernel) rfl (Nat.le_of_ble_eq_true rfl) rfl rfl hr k
theorem s88_106 {X : am_X} {d : Nat} {ls : List Value} {σ : am_M} {st : List Value} {Q : Option Value → am_M → Prop} (k : am_wp X d 88 111 ls st σ Q) : am_wp X d 88 106 ls st σ Q := Eq.mpr (r_go (off := 5) (t := 111) (by decide +kernel) (by decide)) k
theorem s88_109 {X : am_X} {d : Nat} {ls : List Value} {σ : am_M} {st : List Value} {Q : Option Value → am_M → Prop} (k : am_wp X d 88 111 ls (.int 8 :: st) σ Q) : am_wp X d 88 109 ls st σ Q := Eq.mpr (r_bp (z := 8) (v := 8) (by decide +kernel) (by decide +kernel)) k
theorem s88_111 {X : am_X} {d : Nat} {v0 v1 v2 v3 v4 v5 v6 v7 v8 v9 v10 : Value} {x : Int32} {σ : am_M} {st : List Value} {Q : Option Value → am_M → Prop} (h : v9.category = 1) (k : am_wp X d 88 113 [v0, v1, v2, v3, v4, v5, v6, v7, v8, v9, .int x] st σ Q) : am_wp X d 88 111 [v0, v1, v2, v3, v4, v5, v6, v7, v8, v9, v10] (.int x :: st) σ Q := g_is (i := 10) (by decide +kernel) (Nat.le_of_ble_eq_true rfl) (Or.inr h) rfl k
theorem s88_113 {X : am_X} {d : Nat} {v0 v1 v2 v3 v4 v5 v6 v7 v9 v10 : Value} {x : Nat} {σ : am_M} {st : List Value} {Q : Option Value → am_M → Prop} (k : am_wp X d 88 115 [v0, v1, v2, v3, v4, v5, v6, v7, .ref x, v9, v10] (.ref x :: st) σ Q) : am_wp X d 88 113 [v0, v1, v2, v3, v4, v5, v6, v7, .ref x, v9, v10] st σ Q := g_al (i := 8) (by decide +kernel) rfl k
theorem s88_113n {X : am_X} {d : Nat} {v0 v1 v2 v3 v4 v5 v6 v7 v9 v10 : Value} {σ : am_M} {st : List Value} {Q : Option Value → am_M → Prop} (k : am_wp X d 88 115 [v0, v1, v2, v3, v4, v5, v6, v7, .null, v9, v10] (.null :: st) σ Q) : am_wp X d 88 113 [v0, v1, v2, v3, v4, v5, v6, v7, .null, v9, v10] st σ Q := g_al0 (i := 8) (by decide +kernel) rfl k
theorem s88_115 {X : am_X} {d : Nat} {v0 v1 v2 v3 v4 v5 v6 v7 v8 v10 : Value} {x : Int32} {σ : am_M} {st : List Value} {Q : Option Value → am_M → Prop} (k : am_wp X d 88 117 [v0, v1, v2, v3, v4, v5, v6, v7, v8, .int x, v10] (.int x :: st) σ Q) : am_wp X d 88 115 [v0, v1, v2, v3, v4, v5, v6, v7, v8, .int x, v10] st σ Q := g_il (i := 9) (by decide +kernel) rfl k
theorem s88_117 {X : am_X} {d : Nat} {v0 v1 v2 v3 v5 v6 v7 v8 v9 v10 : Value} {x : Int32} {σ : am_M} {st : List Value} {Q : Option Value → am_M → Prop} (k : am_wp X d 88 119 [v0, v1, v2, v3, .int x, v5, v6, v7, v8, v9, v10] (.int x :: st) σ Q) : am_wp X d 88 117 [v0, v1, v2, v3, .int x, v5, v6, v7, v8, v9, v10] st σ Q := g_il (i := 4) (by decide +kernel) rfl k
theorem s88_119 {X : am_X} {d : Nat} {ls : List Value} {y0 : Int32} {y1 : Int32} {σ : am_M} {st : List Value} {Q : Option Value → am_M → Prop} (hr : (st.map fun v => v.category).sum ≤ 8) (k : am_wp X d 132 0 [.int y0, .int y1, am_uv] [] σ (fun v σ' => am_wp X (d + 1) 88 122 ls (v.toList ++ st) σ' Q)) : am_wp X (d + 1) 88 119 ls (.int y1 :: .int y0 :: st) σ Q := g_cs (k := 186) (kd := 0) (m := 132) (n := 2) (mx := 3) (as := [.int y0, .int y1]) (r := st) (en := [.int y0, .int y1, am_uv]) (by decide +kernel) (by decide +kernel) (by decide) (by decide +kernel) rfl (Nat.le_of_ble_eq_true rfl) rfl rfl hr k
theorem s88_122 {X : am_X} {d : Nat} {v0 v1 v2 v3 v4 v5 v6 v7 v8 v9 : Value} {x : Int32} {σ : am_M} {st : List Value} {Q : Option Value → am_M → Prop} (k : am_wp X d 88 124 [v0, v1, v2, v3, v4, v5, v6, v7, v8, v9, .int x] (.int x :: st) σ Q) : am_wp X d 88 122 [v0, v1, v2, v3, v4, v5, v6, v7, v8, v9, .int x] st σ Q := g_il (i := 10) (by decide +kernel) rfl k
theorem s88_124 {X : am_X} {d : Nat} {v0 v1 v2 v3 v4 v5 v7 v8 v9 v10 : Value} {x : Int32} {σ : am_M} {st : List Value} {Q : Option Value → am_M → Prop} (k : am_wp X d 88 126 [v0, v1, v2, v3, v4, v5, .int x, v7, v8, v9, v10] (.int x :: st) σ Q) : am_wp X d 88 124 [v0, v1, v2, v3, v4, v5, .int x, v7, v8, v9, v10] st σ Q := g_il (i := 6) (by decide +kernel) rfl k
theorem s88_126 {X : am_X} {d : Nat} {v0 v1 v2 v3 v4 v5 v6 v7 v8 v10 : Value} {x : Int32} {σ : am_M} {st : List Value} {Q : Option Value → am_M → Prop} (k : am_wp X d 88 128 [v0, v1, v2, v3, v4, v5, v6, v7, v8, .int x, v10] (.int x :: st) σ Q) : am_wp X d 88 126 [v0, v1, v2, v3, v4, v5, v6, v7, v8, .int x, v10] st σ Q := g_il (i := 9) (by decide +kernel) rfl k
theorem s88_128 {X : am_X} {d : Nat} {ls : List Value} {y0 : Int32} {σ : am_M} {st : List Value} {Q : Option Value → am_M → Prop} (hr : (st.map fun v => v.category).sum ≤ 8) (k : am_wp X d 133 0 [.int y0, am_uv, am_uv] [] σ (fun v σ' => am_wp X (d + 1) 88 131 ls (v.toList ++ st) σ' Q)) : am_wp X (d + 1) 88 128 ls (.int y0 :: st) σ Q := g_cs (k := 192) (kd := 0) (m := 133) (n := 1) (mx := 3) (as := [.int y0]) (r := st) (en := [.int y0, am_uv, am_uv]) (by decide +kernel) (by decide +kernel) (by decide) (by decide +kernel) rfl (Nat.le_of_ble_eq_true rfl) rfl rfl hr k
theorem s88_131 {X : am_X} {d : Nat} {ls : List Value} {x y : Int32} {σ : am_M} {st : List Value} {Q : Option Value → am_M → Prop} (k : am_wp X d 88 132 ls (.int (x + y) :: st) σ Q) : am_wp X d 88 131 ls (.int y :: .int x :: st) σ Q := g_iadd (by decide +kernel) k
theorem s88_132 {X : am_X} {d : Nat} {ls : List Value} {a : Nat} {y0 : Int32} {y1 : Int32} {y2 : Int32} {I : Nat → Nat → Int32} {J : Nat → Nat → Int64} {st : List Value} {Q : Option Value → am_M → Prop} (h : am_K0[a]? = some (4, 15)) (hr : (st.map fun v => v.category).sum ≤ 8) (k : am_wp X d 50 0 [.ref a, .int y0, .int y1, .int y2, am_uv] [] (am_N I J) (fun v σ' => am_wp X (d + 1) 88 135 ls (v.toList ++ st) σ' Q)) : am_wp X (d + 1) 88 132 ls (.int y2 :: .int y1 :: .int y0 :: .ref a :: st) (am_N I J) Q := g_cv (k := 206) (m := 50) (n := 3) (mx := 5) (a := a) (o := 4) (nf := 15) (as := [.int y0, .int y1, .int y2]) (r := st) (en := [.ref a, .int y0, .int y1, .int y2, am_uv]) (by decide +kernel) (by decide +kernel) (by decide +kernel) (by decide +kernel) (by decide +kernel) h rfl (Nat.le_of_ble_eq_true rfl) rfl rfl hr k
theorem s88_135 {X : am_X} {d : Nat} {v0 v1 v2 v3 v4 v5 v6 v8 v9 v10 : Value} {x : Int32} {σ : am_M} {st : List Value} {Q : Option Value → am_M → Prop} (h : v6.category = 1) (k : am_wp X d 88 138 [v0, v1, v2, v3, v4, v5, v6, .int (x + 1), v8, v9, v10] st σ Q) : am_wp X d 88 135 [v0, v1, v2, v3, v4, v5, v6, .int x, v8, v9, v10] st σ Q := g_inc (i := 7) (z := 1) (x := x) (v := 1) (by decide +kernel) rfl (Nat.le_of_ble_eq_true rfl) (Or.inr h) (by decide +kernel) rfl k
theorem s88_138 {X : am_X} {d : Nat} {ls : List Value} {σ : am_M} {st : List Value} {Q : Option Value → am_M → Prop} (k : am_wp X d 88 40 ls st σ Q) : am_wp X d 88 138 ls st σ Q := Eq.mpr (r_go (off := (-98)) (t := 40) (by decide +kernel) (by decide)) k
theorem s88_141 {X : am_X} {d : Nat} {v1 v2 v3 v4 v5 v6 v7 v8 v9 v10 : Value} {x : Nat} {σ : am_M} {st : List Value} {Q : Option Value → am_M → Prop} (k : am_wp X d 88 142 [.ref x, v1, v2, v3, v4, v5, v6, v7, v8, v9, v10] (.ref x :: st) σ Q) : am_wp X d 88 141 [.ref x, v1, v2, v3, v4, v5, v6, v7, v8, v9, v10] st σ Q := g_aln (i := 0) (by decide +kernel) rfl k
theorem s88_141n {X : am_X} {d : Nat} {v1 v2 v3 v4 v5 v6 v7 v8 v9 v10 : Value} {σ : am_M} {st : List Value} {Q : Option Value → am_M → Prop} (k : am_wp X d 88 142 [.null, v1, v2, v3, v4, v5, v6, v7, v8, v9, v10] (.null :: st) σ Q) : am_wp X d 88 141 [.null, v1, v2, v3, v4, v5, v6, v7, v8, v9, v10] st σ Q := g_aln0 (i := 0) (by decide +kernel) rfl k
theorem s88_142 {X : am_X} {d : Nat} {ls : List Value} {a b : Nat} {I : Nat → Nat → Int32} {J : Nat → Nat → Int64} {st : List Value} {Q : Option Value → am_M → Prop} (h : am_K0[a]? = some (9, 9)) (hp : am_pg am_P0 a 5 = some b) (k : am_wp X d 88 145 ls (.ref b :: st) (am_N I J) Q) : am_wp X d 88 142 ls (.ref a :: st) (am_N I J) Q := Eq.mpr (r_get (k := 55) (ci := 9) (f := 5) (p := 435) (v := .ref b) (by decide +kernel) (by decide +kernel) (am_far hp (by decide +kernel)) h) k
theorem s88_145 {X : am_X} {d : Nat} {v0 v2 v3 v4 v5 v6 v7 v8 v9 v10 : Value} {x : Int32} {σ : am_M} {st : List Value} {Q : Option Value → am_M → Prop} (k : am_wp X d 88 146 [v0, .int x, v2, v3, v4, v5, v6, v7, v8, v9, v10] (.int x :: st) σ Q) : am_wp X d 88 145 [v0, .int x, v2, v3, v4, v5, v6, v7, v8, v9, v10] st σ Q := g_iln (i := 1) (by decide +kernel) rfl k
theorem s88_146 {X : am_X} {d : Nat} {v0 v1 v3 v4 v5 v6 v7 v8 v9 v10 : Value} {x : Int32} {σ : am_M} {st : List Value} {Q : Option Value → am_M → Prop} (k : am_wp X d 88 147 [v0, v1, .int x, v3, v4, v5, v6, v7, v8, v9, v10] (.int x :: st) σ Q) : am_wp X d 88 146 [v0, v1, .int x, v3, v4, v5, v6, v7, v8, v9, v10] st σ Q := g_iln (i := 2) (by decide +kernel) rfl k
theorem s88_147 {X : am_X} {d : Nat} {v0 v1 v2 v3 v5 v6 v7 v8 v9 v10 : Value} {x : Int32} {σ : am_M} {st : List Value} {Q : Option Value → am_M → Prop} (k : am_wp X d 88 149 [v0, v1, v2, v3, .int x, v5, v6, v7, v8, v9, v10] (.int x :: st) σ Q) : am_wp X d 88 147 [v0, v1, v2, v3, .int x, v5, v6, v7, v8, v9, v10] st σ Q := g_il (i := 4) (by decide +kernel) rfl k
theorem s88_149 {X : am_X} {d : Nat} {v0 v1 v2 v3 v4 v5 v7 v8 v9 v10 : Value} {x : Int32} {σ : am_M} {st : List Value} {Q : Option Value → am_M → Prop} (k : am_wp X d 88 151 [v0, v1, v2, v3, v4, v5, .int x, v7, v8, v9, v10] (.int x :: st) σ Q) : am_wp X d 88 149 [v0, v1, v2, v3, v4, v5, .int x, v7, v8, v9, v10] st σ Q := g_il (i := 6) (by decide +kernel) rfl k
theorem s88_151 {X : am_X} {d : Nat} {ls : List Value} {a : Nat} {y0 : Int32} {y1 : Int32} {y2 : Int32} {y3 : Int32} {I : Nat → Nat → Int32} {J : Nat → Nat → Int64} {st : List Value} {Q : Option Value → am_M → Prop} (h : am_K0[a]? = some (1, 5)) (hr : (st.map fun v => v.category).sum ≤ 8) (k : am_wp X d 17 0 [.ref a, .int y0, .int y1, .int y2, .int y3] [] (am_N I J) (fun v σ' => am_wp X (d + 1) 88 154 ls (v.toList ++ st) σ' Q)) : am_wp X (d + 1) 88 151 ls (.int y3 :: .int y2 :: .int y1 :: .int y0 :: .ref a :: st) (am_N I J) Q := g_cv (k := 210) (m := 17) (n := 4) (mx := 5) (a := a) (o := 1) (nf := 5) (as := [.int y0, .int y1, .int y2, .int y3]) (r := st) (en := [.ref a, .int y0, .int y1, .int y2, .int y3]) (by decide +kernel) (by decide +kernel) (by decide +kernel) (by decide +kernel) (by decide +kernel) h rfl (Nat.le_of_ble_eq_true rfl) rfl rfl hr k
theorem s88_154 {X : am_X} {d : Nat} {ls : List Value} {v : Int32} {σ : am_M} {Q : Option Value → am_M → Prop} (k : Q (some (.int v)) σ) : am_wp X d 88 154 ls [.int v] σ Q := Eq.mpr (r_iret (by decide +kernel) (by decide +kernel)) k
theorem c_88 {X : am_X} {d : Nat} {I : Nat → Nat → Int32} {J : Nat → Nat → Int64} {Q : Option Value → am_M → Prop} {x0 : Int32} {x1 : Int32} {x2 : Int32} {x3 : Int32} {x4 : Int32} {x5 : Int32} (hI : Inv I) (k : (((v_isShake x0 x1 x2 x3 x4) = 0 → Q (some (.int (-2))) (am_N I J)) ∧ (¬ (v_isShake x0 x1 x2 x3 x4) = 0 → (((v_isTime x5) = 0 → Q (some (.int (-2))) (am_N I J)) ∧ (¬ (v_isTime x5) = 0 → (((v_chainFull I) = 0 → am_wp X (d + 3) 88 40 [.ref 0, .int x0, .int x1, .int x2, .int x3, .int x4, .int x5, .int 0, am_uv, am_uv, am_uv] [] (am_N I J) Q) ∧ (¬ (v_chainFull I) = 0 → Q (some (.int (-4))) (am_N I J)))))))) : am_wp X (d + 3) 88 0 [.ref 0, .int x0, .int x1, .int x2, .int x3, .int x4, .int x5, am_uv, am_uv, am_uv, am_uv] [] (am_N I J) Q := s88_0 (s88_1 (s88_2 (s88_3 (s88_5 (s88_7 (Nat.le_of_ble_eq_true rfl) (w_isShake (am_aft (s88_10 (fun h2678 => have k := k.1 h2678; s88_21 (s88_23 (k))) (fun h2678 => have k := k.2 h2678; s88_13 (s88_15 (Nat.le_of_ble_eq_true rfl) (w_isTime (am_aft (s88_18 (fun h2679 => have k := k.1 h2679; s88_21 (s88_23 (k))) (fun h2679 => have k := k.2 h2679; s88_24 (s88_25 k0_0 p0_0_5 (s88_28 k0_91 (Nat.le_of_ble_eq_true rfl) (w_chainFull (am_aft (s88_31 (fun h2680 => have k := k.1 h2680; s88_37 (s88_38 rfl (k))) (fun h2680 => have k := k.2 h2680; s88_34 (s88_36 (k))))))))))))))))))))))
theorem s172_0 {X : am_X} {d : Nat} {v0 v2 v3 v4 v5 v6 v7 : Value} {x : Int32} {σ : am_M} {st : List Value} {Q : Option Value → am_M → Prop} (k : am_wp X d 172 1 [v0, .int x, v2, v3, v4, v5, v6, v7] (.int x :: st) σ Q) : am_wp X d 172 0 [v0, .int x, v2, v3, v4, v5, v6, v7] st σ Q := g_iln (i := 1) (by decide +kernel) rfl k
theorem s172_1 {X : am_X} {d : Nat} {v0 v1 v3 v4 v5 v6 v7 : Value} {x : Int32} {σ : am_M} {st : List Value} {Q : Option Value → am_M → Prop} (k : am_wp X d 172 2 [v0, v1, .int x, v3, v4, v5, v6, v7] (.int x :: st) σ Q) : am_wp X d 172 1 [v0, v1, .int x, v3, v4, v5, v6, v7] st σ Q := g_iln (i := 2) (by decide +kernel) rfl k
theorem s172_2 {X : am_X} {d : Nat} {v0 v1 v2 v4 v5 v6 v7 : Value} {x : Int32} {σ : am_M} {st : List Value} {Q : Option Value → am_M → Prop} (k : am_wp X d 172 3 [v0, v1, v2, .int x, v4, v5, v6, v7] (.int x :: st) σ Q) : am_wp X d 172 2 [v0, v1, v2, .int x, v4, v5, v6, v7] st σ Q := g_iln (i := 3) (by decide +kernel) rfl k
theorem s172_3 {X : am_X} {d : Nat} {v0 v1 v2 v3 v5 v6 v7 : Value} {x : Int32} {σ : am_M} {st : List Value} {Q : Option Value → am_M → Prop} (k : am_wp X d 172 5 [v0, v1, v2, v3, .int x, v5, v6, v7] (.int x :: st) σ Q) : am_wp X d 172 3 [v0, v1, v2, v3, .int x, v5, v6, v7] st σ Q := g_il (i := 4) (by decide +kernel) rfl k
theorem s172_5 {X : am_X} {d : Nat} {v0 v1 v2 v3 v4 v6 v7 : Value} {x : Int32} {σ : am_M} {st : List Value} {Q : Option Value → am_M → Prop} (k : am_wp X d 172 7 [v0, v1, v2, v3, v4, .int x, v6, v7] (.int x :: st) σ Q) : am_wp X d 172 5 [v0, v1, v2, v3, v4, .int x, v6, v7] st σ Q := g_il (i := 5) (by decide +kernel) rfl k
theorem s172_7 {X : am_X} {d : Nat} {ls : List Value} {y0 : Int32} {y1 : Int32} {y2 : Int32} {y3 : Int32} {y4 : Int32} {σ : am_M} {st : List Value} {Q : Option Value → am_M → Prop} (hr : (st.map fun v => v.category).sum ≤ 8) (k : am_wp X d 168 0 [.int y0, .int y1, .int y2, .int y3, .int y4] [] σ (fun v σ' => am_wp X (d + 1) 172 10 ls (v.toList ++ st) σ' Q)) : am_wp X (d + 1) 172 7 ls (.int y4 :: .int y3 :: .int y2 :: .int y1 :: .int y0 :: st) σ Q := g_cs (k := 167) (kd := 0) (m := 168) (n := 5) (mx := 5) (as := [.int y0, .int y1, .int y2, .int y3, .int y4]) (r := st) (en := [.int y0, .int y1, .int y2, .int y3, .int y4]) (by decide +kernel) (by decide +kernel) (by decide) (by decide +kernel) rfl (Nat.le_of_ble_eq_true rfl) rfl rfl hr k
theorem s172_10 {X : am_X} {d : Nat} {ls : List Value} {x : Int32} {σ : am_M} {st : List Value} {Q : Option Value → am_M → Prop} (kt : x = 0 → am_wp X d 172 24 ls st σ Q) (kf : ¬ x = 0 → am_wp X d 172 13 ls st σ Q) : am_wp X d 172 10 ls (.int x :: st) σ Q := Eq.mpr (r_eq (off := 14) (t := 24) (by decide +kernel) (by decide)) (am_spl kt kf)
theorem s172_13 {X : am_X} {d : Nat} {v0 v1 v2 v3 v4 v5 v7 : Value} {x : Int32} {σ : am_M} {st : List Value} {Q : Option Value → am_M → Prop} (k : am_wp X d 172 15 [v0, v1, v2, v3, v4, v5, .int x, v7] (.int x :: st) σ Q) : am_wp X d 172 13 [v0, v1, v2, v3, v4, v5, .int x, v7] st σ Q := g_il (i := 6) (by decide +kernel) rfl k
theorem s172_15 {X : am_X} {d : Nat} {ls : List Value} {σ : am_M} {st : List Value} {Q : Option Value → am_M → Prop} (k : am_wp X d 172 16 ls (.int 0 :: st) σ Q) : am_wp X d 172 15 ls st σ Q := Eq.mpr (r_ic (z := 0) (v := 0) (by decide +kernel) (by decide +kernel)) k
theorem s172_16 {X : am_X} {d : Nat} {ls : List Value} {σ : am_M} {st : List Value} {Q : Option Value → am_M → Prop} (k : am_wp X d 172 18 ls (.int 1000000 :: st) σ Q) : am_wp X d 172 16 ls st σ Q := Eq.mpr (r_ldc (k := 191) (p := 1328) (by decide +kernel) (by decide +kernel)) k
theorem s172_18 {X : am_X} {d : Nat} {ls : List Value} {y0 : Int32} {y1 : Int32} {y2 : Int32} {σ : am_M} {st : List Value} {Q : Option Value → am_M → Prop} (hr : (st.map fun v => v.category).sum ≤ 8) (k : am_wp X d 143 0 [.int y0, .int y1, .int y2] [] σ (fun v σ' => am_wp X (d + 1) 172 21 ls (v.toList ++ st) σ' Q)) : am_wp X (d + 1) 172 18 ls (.int y2 :: .int y1 :: .int y0 :: st) σ Q := g_cs (k := 129) (kd := 0) (m := 143) (n := 3) (mx := 3) (as := [.int y0, .int y1, .int y2]) (r := st) (en := [.int y0, .int y1, .int y2]) (by decide +kernel) (by decide +kernel) (by decide) (by decide +kernel) rfl (Nat.le_of_ble_eq_true rfl) rfl rfl hr k
theorem s172_21 {X : am_X} {d : Nat} {ls : List Value} {x : Int32} {σ : am_M} {st : List Value} {Q : Option Value → am_M → Prop} (kt : x = 0 → am_wp X d 172 24 ls st σ Q) (kf : ¬ x = 0 → am_wp X d 172 27 ls st σ Q) : am_wp X d 172 21 ls (.int x :: st) σ Q := Eq.mpr (r_ne (off := 6) (t := 27) (by decide +kernel) (by decide)) (am_spl kt kf)
theorem s172_24 {X : am_X} {d : Nat} {ls : List Value} {σ : am_M} {st : List Value} {Q : Option Value → am_M → Prop} (k : am_wp X d 172 26 ls (.int (-2) :: st) σ Q) : am_wp X d 172 24 ls st σ Q := Eq.mpr (r_bp (z := (-2)) (v := (-2)) (by decide +kernel) (by decide +kernel)) k
theorem s172_26 {X : am_X} {d : Nat} {ls : List Value} {v : Int32} {σ : am_M} {Q : Option Value → am_M → Prop} (k : Q (some (.int v)) σ) : am_wp X d 172 26 ls [.int v] σ Q := Eq.mpr (r_iret (by decide +kernel) (by decide +kernel)) k
theorem s172_27 {X : am_X} {d : Nat} {v1 v2 v3 v4 v5 v6 v7 : Value} {x : Nat} {σ : am_M} {st : List Value} {Q : Option Value → am_M → Prop} (k : am_wp X d 172 28 [.ref x, v1, v2, v3, v4, v5, v6, v7] (.ref x :: st) σ Q) : am_wp X d 172 27 [.ref x, v1, v2, v3, v4, v5, v6, v7] st σ Q := g_aln (i := 0) (by decide +kernel) rfl k
theorem s172_27n {X : am_X} {d : Nat} {v1 v2 v3 v4 v5 v6 v7 : Value} {σ : am_M} {st : List Value} {Q : Option Value → am_M → Prop} (k : am_wp X d 172 28 [.null, v1, v2, v3, v4, v5, v6, v7] (.null :: st) σ Q) : am_wp X d 172 27 [.null, v1, v2, v3, v4, v5, v6, v7] st σ Q := g_aln0 (i := 0) (by decide +kernel) rfl k
theorem s172_28 {X : am_X} {d : Nat} {ls : List Value} {a : Nat} {I : Nat → Nat → Int32} {J : Nat → Nat → Int64} {st : List Value} {Q : Option Value → am_M → Prop} (h : am_K0[a]? = some (10, 58)) (k : am_wp X d 172 31 ls (.int (I a 21) :: st) (am_N I J) Q) : am_wp X d 172 28 ls (.ref a :: st) (am_N I J) Q := Eq.mpr (r_get (k := 188) (ci := 10) (f := 21) (p := 1074) (by decide +kernel) (by decide +kernel) rfl h) k
theorem s172_31 {X : am_X} {d : Nat} {ls : List Value} {σ : am_M} {st : List Value} {Q : Option Value → am_M → Prop} (k : am_wp X d 172 33 ls (.int 12 :: st) σ Q) : am_wp X d 172 31 ls st σ Q := Eq.mpr (r_bp (z := 12) (v := 12) (by decide +kernel) (by decide +kernel)) k
theorem s172_33 {X : am_X} {d : Nat} {ls : List Value} {x y : Int32} {σ : am_M} {st : List Value} {Q : Option Value → am_M → Prop} (kt : x = y → am_wp X d 172 36 ls st σ Q) (kf : ¬ x = y → am_wp X d 172 39 ls st σ Q) : am_wp X d 172 33 ls (.int y :: .int x :: st) σ Q := Eq.mpr (r_cne (off := 6) (t := 39) (by decide +kernel) (by decide)) (am_spl kt kf)
theorem s172_36 {X : am_X} {d : Nat} {ls : List Value} {σ : am_M} {st : List Value} {Q : Option Value → am_M → Prop} (k : am_wp X d 172 38 ls (.int (-4) :: st) σ Q) : am_wp X d 172 36 ls st σ Q := Eq.mpr (r_bp (z := (-4)) (v := (-4)) (by decide +kernel) (by decide +kernel)) k
theorem s172_38 {X : am_X} {d : Nat} {ls : List Value} {v : Int32} {σ : am_M} {Q : Option Value → am_M → Prop} (k : Q (some (.int v)) σ) : am_wp X d 172 38 ls [.int v] σ Q := Eq.mpr (r_iret (by decide +kernel) (by decide +kernel)) k
theorem s172_39 {X : am_X} {d : Nat} {ls : List Value} {σ : am_M} {st : List Value} {Q : Option Value → am_M → Prop} (k : am_wp X d 172 40 ls (.int 0 :: st) σ Q) : am_wp X d 172 39 ls st σ Q := Eq.mpr (r_ic (z := 0) (v := 0) (by decide +kernel) (by decide +kernel)) k
theorem s172_40 {X : am_X} {d : Nat} {v0 v1 v2 v3 v4 v5 v6 v7 : Value} {x : Int32} {σ : am_M} {st : List Value} {Q : Option Value → am_M → Prop} (h : v6.category = 1) (k : am_wp X d 172 42 [v0, v1, v2, v3, v4, v5, v6, .int x] st σ Q) : am_wp X d 172 40 [v0, v1, v2, v3, v4, v5, v6, v7] (.int x :: st) σ Q := g_is (i := 7) (by decide +kernel) (Nat.le_of_ble_eq_true rfl) (Or.inr h) rfl k
theorem s172_42 {X : am_X} {d : Nat} {v0 v1 v2 v3 v4 v5 v6 : Value} {x : Int32} {σ : am_M} {st : List Value} {Q : Option Value → am_M → Prop} (k : am_wp X d 172 44 [v0, v1, v2, v3, v4, v5, v6, .int x] (.int x :: st) σ Q) : am_wp X d 172 42 [v0, v1, v2, v3, v4, v5, v6, .int x] st σ Q := g_il (i := 7) (by decide +kernel) rfl k
theorem s172_44 {X : am_X} {d : Nat} {v1 v2 v3 v4 v5 v6 v7 : Value} {x : Nat} {σ : am_M} {st : List Value} {Q : Option Value → am_M → Prop} (k : am_wp X d 172 45 [.ref x, v1, v2, v3, v4, v5, v6, v7] (.ref x :: st) σ Q) : am_wp X d 172 44 [.ref x, v1, v2, v3, v4, v5, v6, v7] st σ Q := g_aln (i := 0) (by decide +kernel) rfl k
theorem s172_44n {X : am_X} {d : Nat} {v1 v2 v3 v4 v5 v6 v7 : Value} {σ : am_M} {st : List Value} {Q : Option Value → am_M → Prop} (k : am_wp X d 172 45 [.null, v1, v2, v3, v4, v5, v6, v7] (.null :: st) σ Q) : am_wp X d 172 44 [.null, v1, v2, v3, v4, v5, v6, v7] st σ Q := g_aln0 (i := 0) (by decide +kernel) rfl k
theorem s172_45 {X : am_X} {d : Nat} {ls : List Value} {a : Nat} {I : Nat → Nat → Int32} {J : Nat → Nat → Int64} {st : List Value} {Q : Option Value → am_M → Prop} (h : am_K0[a]? = some (10, 58)) (k : am_wp X d 172 48 ls (.int (I a 2) :: st) (am_N I J) Q) : am_wp X d 172 45 ls (.ref a :: st) (am_N I J) Q := Eq.mpr (r_get (k := 122) (ci := 10) (f := 2) (p := 1055) (by decide +kernel) (by decide +kernel) rfl h) k
theorem s172_48 {X : am_X} {d : Nat} {ls : List Value} {x y : Int32} {σ : am_M} {st : List Value} {Q : Option Value → am_M → Prop} (kt : y ≤ x → am_wp X d 172 72 ls st σ Q) (kf : ¬ y ≤ x → am_wp X d 172 51 ls st σ Q) : am_wp X d 172 48 ls (.int y :: .int x :: st) σ Q := Eq.mpr (r_cge (off := 24) (t := 72) (by decide +kernel) (by decide)) (am_spl kt kf)
theorem s172_51 {X : am_X} {d : Nat} {v1 v2 v3 v4 v5 v6 v7 : Value} {x : Nat} {σ : am_M} {st : List Value} {Q : Option Value → am_M → Prop} (k : am_wp X d 172 52 [.ref x, v1, v2, v3, v4, v5, v6, v7] (.ref x :: st) σ Q) : am_wp X d 172 51 [.ref x, v1, v2, v3, v4, v5, v6, v7] st σ Q := g_aln (i := 0) (by decide +kernel) rfl k
theorem s172_51n {X : am_X} {d : Nat} {v1 v2 v3 v4 v5 v6 v7 : Value} {σ : am_M} {st : List Value} {Q : Option Value → am_M → Prop} (k : am_wp X d 172 52 [.null, v1, v2, v3, v4, v5, v6, v7] (.null :: st) σ Q) : am_wp X d 172 51 [.null, v1, v2, v3, v4, v5, v6, v7] st σ Q := g_aln0 (i := 0) (by decide +kernel) rfl k
theorem s172_52 {X : am_X} {d : Nat} {v0 v1 v2 v3 v4 v5 v6 : Value} {x : Int32} {σ : am_M} {st : List Value} {Q : Option Value → am_M → Prop} (k : am_wp X d 172 54 [v0, v1, v2, v3, v4, v5, v6, .int x] (.int x :: st) σ Q) : am_wp X d 172 52 [v0, v1, v2, v3, v4, v5, v6, .int x] st σ Q := g_il (i := 7) (by decide +kernel) rfl k
theorem s172_54 {X : am_X} {d : Nat} {v0 v2 v3 v4 v5 v6 v7 : Value} {x : Int32} {σ : am_M} {st : List Value} {Q : Option Value → am_M → Prop} (k : am_wp X d 172 55 [v0, .int x, v2, v3, v4, v5, v6, v7] (.int x :: st) σ Q) : am_wp X d 172 54 [v0, .int x, v2, v3, v4, v5, v6, v7] st σ Q := g_iln (i := 1) (by decide +kernel) rfl k
theorem s172_55 {X : am_X} {d : Nat} {v0 v1 v3 v4 v5 v6 v7 : Value} {x : Int32} {σ : am_M} {st : List Value} {Q : Option Value → am_M → Prop} (k : am_wp X d 172 56 [v0, v1, .int x, v3, v4, v5, v6, v7] (.int x :: st) σ Q) : am_wp X d 172 55 [v0, v1, .int x, v3, v4, v5, v6, v7] st σ Q := g_iln (i := 2) (by decide +kernel) rfl k
theorem s172_56 {X : am_X} {d : Nat} {v0 v1 v2 v4 v5 v6 v7 : Value} {x : Int32} {σ : am_M} {st : List Value} {Q : Option Value → am_M → Prop} (k : am_wp X d 172 57 [v0, v1, v2, .int x, v4, v5, v6, v7] (.int x :: st) σ Q) : am_wp X d 172 56 [v0, v1, v2, .int x, v4, v5, v6, v7] st σ Q := g_iln (i := 3) (by decide +kernel) rfl k
theorem s172_57 {X : am_X} {d : Nat} {v0 v1 v2 v3 v5 v6 v7 : Value} {x : Int32} {σ : am_M} {st : List Value} {Q : Option Value → am_M → Prop} (k : am_wp X d 172 59 [v0, v1, v2, v3, .int x, v5, v6, v7] (.int x :: st) σ Q) : am_wp X d 172 57 [v0, v1, v2, v3, .int x, v5, v6, v7] st σ Q := g_il (i := 4) (by decide +kernel) rfl k
theorem s172_59 {X : am_X} {d : Nat} {v0 v1 v2 v3 v4 v6 v7 : Value} {x : Int32} {σ : am_M} {st : List Value} {Q : Option Value → am_M → Prop} (k : am_wp X d 172 61 [v0, v1, v2, v3, v4, .int x, v6, v7] (.int x :: st) σ Q) : am_wp X d 172 59 [v0, v1, v2, v3, v4, .int x, v6, v7] st σ Q := g_il (i := 5) (by decide +kernel) rfl k
theorem s172_61 {X : am_X} {d : Nat} {v0 v1 v2 v3 v4 v5 v7 : Value} {x : Int32} {σ : am_M} {st : List Value} {Q : Option Value → am_M → Prop} (k : am_wp X d 172 63 [v0, v1, v2, v3, v4, v5, .int x, v7] (.int x :: st) σ Q) : am_wp X d 172 61 [v0, v1, v2, v3, v4, v5, .int x, v7] st σ Q := g_il (i := 6) (by decide +kernel) rfl k
theorem s172_63 {X : am_X} {d : Nat} {ls : List Value} {a : Nat} {y0 : Int32} {y1 : Int32} {y2 : Int32} {y3 : Int32} {y4 : Int32} {y5 : Int32} {y6 : Int32} {I : Nat → Nat → Int32} {J : Nat → Nat → Int64} {st : List Value} {Q : Option Value → am_M → Prop} (h : am_K0[a]? = some (10, 58)) (hr : (st.map fun v => v.category).sum ≤ 8) (k : am_wp X d 170 0 [.ref a, .int y0, .int y1, .int y2, .int y3, .int y4, .int y5, .int y6, am_uv, am_uv, am_uv, am_uv, am_uv, am_uv] [] (am_N I J) (fun v σ' => am_wp X (d + 1) 172 66 ls (v.toList ++ st) σ' Q)) : am_wp X (d + 1) 172 63 ls (.int y6 :: .int y5 :: .int y4 :: .int y3 :: .int y2 :: .int y1 :: .int y0 :: .ref a :: st) (am_N I J) Q := g_cv (k := 192) (m := 170) (n := 7) (mx := 14) (a := a) (o := 10) (nf := 58) (as := [.int y0, .int y1, .int y2, .int y3, .int y4, .int y5, .int y6]) (r := st) (en := [.ref a, .int y0, .int y1, .int y2, .int y3, .int y4, .int y5, .int y6, am_uv, am_uv, am_uv, am_uv, am_uv, am_uv]) (by decide +kernel) (by decide +kernel) (by decide +kernel) (by decide +kernel) (by decide +kernel) h rfl (Nat.le_of_ble_eq_true rfl) rfl rfl hr k
theorem s172_66 {X : am_X} {d : Nat} {v0 v1 v2 v3 v4 v5 v6 : Value} {x : Int32} {σ : am_M} {st : List Value} {Q : Option Value → am_M → Prop} (h : v6.category = 1) (k : am_wp X d 172 69 [v0, v1, v2, v3, v4, v5, v6, .int (x + 1)] st σ Q) : am_wp X d 172 66 [v0, v1, v2, v3, v4, v5, v6, .int x] st σ Q := g_inc (i := 7) (z := 1) (x := x) (v := 1) (by decide +kernel) rfl (Nat.le_of_ble_eq_true rfl) (Or.inr h) (by decide +kernel) rfl k
theorem s172_69 {X : am_X} {d : Nat} {ls : List Value} {σ : am_M} {st : List Value} {Q : Option Value → am_M → Prop} (k : am_wp X d 172 42 ls st σ Q) : am_wp X d 172 69 ls st σ Q := Eq.mpr (r_go (off := (-27)) (t := 42) (by decide +kernel) (by decide)) k
theorem s172_72 {X : am_X} {d : Nat} {v1 v2 v3 v4 v5 v6 v7 : Value} {x : Nat} {σ : am_M} {st : List Value} {Q : Option Value → am_M → Prop} (k : am_wp X d 172 73 [.ref x, v1, v2, v3, v4, v5, v6, v7] (.ref x :: st) σ Q) : am_wp X d 172 72 [.ref x, v1, v2, v3, v4, v5, v6, v7] st σ Q := g_aln (i := 0) (by decide +kernel) rfl k
theorem s172_72n {X : am_X} {d : Nat} {v1 v2 v3 v4 v5 v6 v7 : Value} {σ : am_M} {st : List Value} {Q : Option Value → am_M → Prop} (k : am_wp X d 172 73 [.null, v1, v2, v3, v4, v5, v6, v7] (.null :: st) σ Q) : am_wp X d 172 72 [.null, v1, v2, v3, v4, v5, v6, v7] st σ Q := g_aln0 (i := 0) (by decide +kernel) rfl k
theorem s172_73 {X : am_X} {d : Nat} {v0 v2 v3 v4 v5 v6 v7 : Value} {x : Int32} {σ : am_M} {st : List Value} {Q : Option Value → am_M → Prop} (k : am_wp X d 172 74 [v0, .int x, v2, v3, v4, v5, v6, v7] (.int x :: st) σ Q) : am_wp X d 172 73 [v0, .int x, v2, v3, v4, v5, v6, v7] st σ Q := g_iln (i := 1) (by decide +kernel) rfl k
theorem s172_74 {X : am_X} {d : Nat} {v0 v1 v3 v4 v5 v6 v7 : Value} {x : Int32} {σ : am_M} {st : List Value} {Q : Option Value → am_M → Prop} (k : am_wp X d 172 75 [v0, v1, .int x, v3, v4, v5, v6, v7] (.int x :: st) σ Q) : am_wp X d 172 74 [v0, v1, .int x, v3, v4, v5, v6, v7] st σ Q := g_iln (i := 2) (by decide +kernel) rfl k
theorem s172_75 {X : am_X} {d : Nat} {v0 v1 v2 v3 v5 v6 v7 : Value} {x : Int32} {σ : am_M} {st : List Value} {Q : Option Value → am_M → Prop} (k : am_wp X d 172 77 [v0, v1, v2, v3, .int x, v5, v6, v7] (.int x :: st) σ Q) : am_wp X d 172 75 [v0, v1, v2, v3, .int x, v5, v6, v7] st σ Q := g_il (i := 4) (by decide +kernel) rfl k
theorem s172_77 {X : am_X} {d : Nat} {v0 v1 v2 v3 v4 v5 v7 : Value} {x : Int32} {σ : am_M} {st : List Value} {Q : Option Value → am_M → Prop} (k : am_wp X d 172 79 [v0, v1, v2, v3, v4, v5, .int x, v7] (.int x :: st) σ Q) : am_wp X d 172 77 [v0, v1, v2, v3, v4, v5, .int x, v7] st σ Q := g_il (i := 6) (by decide +kernel) rfl k
theorem s172_79 {X : am_X} {d : Nat} {ls : List Value} {a : Nat} {y0 : Int32} {y1 : Int32} {y2 : Int32} {y3 : Int32} {I : Nat → Nat → Int32} {J : Nat → Nat → Int64} {st : List Value} {Q : Option Value → am_M → Prop} (h : am_K0[a]? = some (10, 58)) (hr : (st.map fun v => v.category).sum ≤ 8) (k : am_wp X d 171 0 [.ref a, .int y0, .int y1, .int y2, .int y3] [] (am_N I J) (fun v σ' => am_wp X (d + 1) 172 82 ls (v.toList ++ st) σ' Q)) : am_wp X (d + 1) 172 79 ls (.int y3 :: .int y2 :: .int y1 :: .int y0 :: .ref a :: st) (am_N I J) Q := g_cv (k := 196) (m := 171) (n := 4) (mx := 5) (a := a) (o := 10) (nf := 58) (as := [.int y0, .int y1, .int y2, .int y3]) (r := st) (en := [.ref a, .int y0, .int y1, .int y2, .int y3]) (by decide +kernel) (by decide +kernel) (by decide +kernel) (by decide +kernel) (by decide +kernel) h rfl (Nat.le_of_ble_eq_true rfl) rfl rfl hr k
theorem s172_82 {X : am_X} {d : Nat} {ls : List Value} {v : Int32} {σ : am_M} {Q : Option Value → am_M → Prop} (k : Q (some (.int v)) σ) : am_wp X d 172 82 ls [.int v] σ Q := Eq.mpr (r_iret (by decide +kernel) (by decide +kernel)) k
theorem c_172 {X : am_X} {d : Nat} {I : Nat → Nat → Int32} {J : Nat → Nat → Int64} {Q : Option Value → am_M → Prop} {x0 : Int32} {x1 : Int32} {x2 : Int32} {x3 : Int32} {x4 : Int32} {x5 : Int32} (k : (((v_m_isShake x0 x1 x2 x3 x4) = 0 → Q (some (.int (-2))) (am_N I J)) ∧ (¬ (v_m_isShake x0 x1 x2 x3 x4) = 0 → (((v_within x5 0 1000000) = 0 → Q (some (.int (-2))) (am_N I J)) ∧ (¬ (v_within x5 0 1000000) = 0 → (((I 105 21) = 12 → Q (some (.int (-4))) (am_N I J)) ∧ (¬ (I 105 21) = 12 → am_wp X (d + 3) 172 42 [.ref 105, .int x0, .int x1, .int x2, .int x3, .int x4, .int x5, .int 0] [] (am_N I J) Q))))))) : am_wp X (d + 3) 172 0 [.ref 105, .int x0, .int x1, .int x2, .int x3, .int x4, .int x5, am_uv] [] (am_N I J) Q := s172_0 (s172_1 (s172_2 (s172_3 (s172_5 (s172_7 (Nat.le_of_ble_eq_true rfl) (w_m_isShake (am_aft (s172_10 (fun h2681 => have k := k.1 h2681; s172_24 (s172_26 (k))) (fun h2681 => have k := k.2 h2681; s172_13 (s172_15 (s172_16 (s172_18 (Nat.le_of_ble_eq_true rfl) (w_within (am_aft (s172_21 (fun h2682 => have k := k.1 h2682; s172_24 (s172_26 (k))) (fun h2682 => have k := k.2 h2682; s172_27 (s172_28 k0_105 (s172_31 (s172_33 (fun h2683 => have k := k.1 h2683; s172_36 (s172_38 (k))) (fun h2683 => have k := k.2 h2683; s172_39 (s172_40 rfl (k))))))))))))))))))))))
theorem b_172 {X : am_X} {d : Nat} {I I1 : Nat → Nat → Int32} {J : Nat → Nat → Int64} {Q : Option Value → am_M → Prop} {x0 : Int32} {x1 : Int32} {x2 : Int32} {x3 : Int32} {x4 : Int32} {x5 : Int32} (hag : am_ag I I1) (k : (((v_isShake x0 x1 x2 x3 x4) = 0 → Q (some (.int (-2))) (am_N I1 J)) ∧ (¬ (v_isShake x0 x1 x2 x3 x4) = 0 → (((v_isTime x5) = 0 → Q (some (.int (-2))) (am_N I1 J)) ∧ (¬ (v_isTime x5) = 0 → (((I 105 21) = 12 → Q (some (.int (-4))) (am_N I1 J)) ∧ (¬ (I 105 21) = 12 → am_wp X (d + 3) 172 42 [.ref 105, .int x0, .int x1, .int x2, .int x3, .int x4, .int x5, .int 0] [] (am_N I1 J) Q))))))) : am_wp X (d + 3) 172 0 [.ref 105, .int x0, .int x1, .int x2, .int x3, .int x4, .int x5, am_uv] [] (am_N I1 J) Q := by
  refine c_172 ?_
  rw [hag 105 (by decide)]
  exact k
theorem c_88_40 {X : am_X} {d : Nat} {I : Nat → Nat → Int32} {J : Nat → Nat → Int64} {Q : Option Value → am_M → Prop} {x0 x1 x2 x3 x4 x5 m : Int32} {u1 u2 u3 : Value} (hu1 : u1.category = 1) (hu2 : u2.category = 1) (hu3 : u3.category = 1) (k : (((I 1 1) ≤ m → ((v_chainFull I) = 0 ∧ (am_ix (I 91 4) 12 ∧ Q (some (.int (I 91 4))) (am_N (am_up (am_up (am_up (am_up (am_up I 92 (Int32.toNatClampNeg (I 91 4)) x0) 93 (Int32.toNatClampNeg (I 91 4)) x1) 94 (Int32.toNatClampNeg (I 91 4)) x3) 95 (Int32.toNatClampNeg (I 91 4)) x5) 91 4 ((I 91 4) + 1)) J)))) ∧ (¬ (I 1 1) ≤ m → (am_ix m 8 ∧ ((x4 = 0 → (gR (I (3 + 4 * (Int32.toNatClampNeg m)) 11) 0 6 ∧ am_wp X (d + 3) 88 40 [.ref 0, .int x0, .int x1, .int x2, .int x3, .int x4, .int x5, .int (m + 1), .ref (3 + 4 * (Int32.toNatClampNeg m)), .int (v_farOf ((I (3 + 4 * (Int32.toNatClampNeg m)) 1) - x0) ((I (3 + 4 * (Int32.toNatClampNeg m)) 2) - x1) x2), .int (v_wayOf ((I (3 + 4 * (Int32.toNatClampNeg m)) 1) - x0) ((I (3 + 4 * (Int32.toNatClampNeg m)) 2) - x1))] [] (am_N (s_hs I (3 + 4 * (Int32.toNatClampNeg m)) (v_forceOf (v_farOf ((I (3 + 4 * (Int32.toNatClampNeg m)) 1) - x0) ((I (3 + 4 * (Int32.toNatClampNeg m)) 2) - x1) x2) x3) (v_wayOf ((I (3 + 4 * (Int32.toNatClampNeg m)) 1) - x0) ((I (3 + 4 * (Int32.toNatClampNeg m)) 2) - x1)) (x5 + (v_delay (v_farOf ((I (3 + 4 * (Int32.toNatClampNeg m)) 1) - x0) ((I (3 + 4 * (Int32.toNatClampNeg m)) 2) - x1) x2)))) J) Q)) ∧ (¬ x4 = 0 → (gR (I (3 + 4 * (Int32.toNatClampNeg m)) 11) 0 6 ∧ am_wp X (d + 3) 88 40 [.ref 0, .int x0, .int x1, .int x2, .int x3, .int x4, .int x5, .int (m + 1), .ref (3 + 4 * (Int32.toNatClampNeg m)), .int (v_farOf ((I (3 + 4 * (Int32.toNatClampNeg m)) 1) - x0) ((I (3 + 4 * (Int32.toNatClampNeg m)) 2) - x1) x2), .int 8] [] (am_N (s_hs I (3 + 4 * (Int32.toNatClampNeg m)) (v_forceOf (v_farOf ((I (3 + 4 * (Int32.toNatClampNeg m)) 1) - x0) ((I (3 + 4 * (Int32.toNatClampNeg m)) 2) - x1) x2) x3) 8 (x5 + (v_delay (v_farOf ((I (3 + 4 * (Int32.toNatClampNeg m)) 1) - x0) ((I (3 + 4 * (Int32.toNatClampNeg m)) 2) - x1) x2)))) J) Q))))))) : am_wp X (d + 3) 88 40 [.ref 0, .int x0, .int x1, .int x2, .int x3, .int x4, .int x5, .int m, u1, u2, u3] [] (am_N I J) Q := s88_40 (s88_42 (s88_43 k0_0 p0_0_0 (s88_46 k0_1 (s88_49 (fun h2684 => have k := k.1 h2684; s88_141 (s88_142 k0_0 p0_0_5 (s88_145 (s88_146 (s88_147 (s88_149 (s88_151 k0_91 (Nat.le_of_ble_eq_true rfl) (w_17 k.1 k.2.1 (have k := k.2.2; am_aft (s88_154 (k))))))))))) (fun h2684 => have k := k.2 h2684; s88_52 (s88_53 k0_0 p0_0_0 (s88_56 k0_1 p0_1_0 (s88_59 (have b2685 := k.1; have k := k.2; s88_61 k0_2 (by decide) b2685 (p0_2 b2685) (s88_62 rfl (s88_64 (s88_66 (k0_H (isH_of b2685)) (s88_69 (s88_70 (s88_71 (s88_73 (k0_H (isH_of b2685)) (s88_76 (s88_77 (s88_78 (s88_79 (Nat.le_of_ble_eq_true rfl) (w_farOf (am_aft (s88_82 rfl (s88_84 (s88_86 (fun h2686 => have k := k.1 h2686; s88_89 (s88_91 (k0_H (isH_of b2685)) (s88_94 (s88_95 (s88_96 (s88_98 (k0_H (isH_of b2685)) (s88_101 (s88_102 (s88_103 (Nat.le_of_ble_eq_true rfl) (w_wayOf (am_aft (s88_106 (s88_111 rfl (s88_113 (s88_115 (s88_117 (s88_119 (Nat.le_of_ble_eq_true rfl) (w_forceOf (am_aft (s88_122 (s88_124 (s88_126 (s88_128 (Nat.le_of_ble_eq_true rfl) (w_133 (am_aft (s88_131 (s88_132 (k0_H (isH_of b2685)) (Nat.le_of_ble_eq_true rfl) (w_50 (isH_of b2685) k.1 (have k := k.2; am_aft0 (s88_135 rfl (s88_138 (k)))))))))))))))))))))))))))))))) (fun h2686 => have k := k.2 h2686; s88_109 (s88_111 rfl (s88_113 (s88_115 (s88_117 (s88_119 (Nat.le_of_ble_eq_true rfl) (w_forceOf (am_aft (s88_122 (s88_124 (s88_126 (s88_128 (Nat.le_of_ble_eq_true rfl) (w_133 (am_aft (s88_131 (s88_132 (k0_H (isH_of b2685)) (Nat.le_of_ble_eq_true rfl) (w_50 (isH_of b2685) k.1 (have k := k.2; am_aft0 (s88_135 rfl (s88_138 (k))))))))))))))))))))))))))))))))))))))))))))))
theorem c_172_42 {X : am_X} {d : Nat} {I : Nat → Nat → Int32} {J : Nat → Nat → Int64} {Q : Option Value → am_M → Prop} {x0 x1 x2 x3 x4 x5 m : Int32} (k : (((I 105 2) ≤ m → (am_ix (I 105 21) 12 ∧ Q (some (.int (I 105 21))) (am_N (am_up (am_up (am_up (am_up (am_up I 124 (Int32.toNatClampNeg (I 105 21)) x0) 125 (Int32.toNatClampNeg (I 105 21)) x1) 126 (Int32.toNatClampNeg (I 105 21)) x3) 127 (Int32.toNatClampNeg (I 105 21)) x5) 105 21 ((I 105 21) + 1)) J))) ∧ (¬ (I 105 2) ≤ m → (p170 I m x0 x1 x2 x3 x4 x5 ∧ am_wp X (d + 3) 172 42 [.ref 105, .int x0, .int x1, .int x2, .int x3, .int x4, .int x5, .int (m + 1)] [] (am_N (r_hs I m x0 x1 x2 x3 x4 x5) J) Q)))) : am_wp X (d + 3) 172 42 [.ref 105, .int x0, .int x1, .int x2, .int x3, .int x4, .int x5, .int m] [] (am_N I J) Q := s172_42 (s172_44 (s172_45 k0_105 (s172_48 (fun h2687 => have k := k.1 h2687; s172_72 (s172_73 (s172_74 (s172_75 (s172_77 (s172_79 k0_105 (Nat.le_of_ble_eq_true rfl) (w_171 k.1 (have k := k.2; am_aft (s172_82 (k)))))))))) (fun h2687 => have k := k.2 h2687; s172_51 (s172_52 (s172_54 (s172_55 (s172_56 (s172_57 (s172_59 (s172_61 (s172_63 k0_105 (Nat.le_of_ble_eq_true rfl) (w_170 k.1 (have k := k.2; am_aft0 (s172_66 rfl (s172_69 (k)))))))))))))))))
theorem Inv.ballw {I I' : Nat → Nat → Int32} {n : Nat} (h : Inv I) (hn : n < 8) (hb : Int32.ofInt (n : Int) < I 1 1) {w : Int32} (q1 : gR w 0 7) (hs : ∀ a k, ¬ ((a = 3 + 4 * n ∧ k = 8) ∨ (a = 117 ∧ k = n)) → ¬ Sc a k → I' a k = I a k) (e1 : I' (3 + 4 * n) 8 = w) (e2 : I' 117 n = w) : Inv I' := by
  obtain ⟨⟨a0, a1, a2, a3, a4, a5, a6⟩, ⟨b7, b9, b10, b11⟩, ⟨c106, c107, c108, c109, c110, c111, c112, c113, c119, c114⟩, d1, d2, d3⟩ := h.2.1 n hn
  refine h.f_house hn (fun a k p q => hs a k (by omega) q) ?_ (fun j hj => ?_)
  · unfold R_house
    rw [hs (3 + 4 * n) 0 (by omega) (nSc (by omega)), hs (3 + 4 * n) 1 (by omega) (nSc (by omega)), hs (3 + 4 * n) 2 (by omega) (nSc (by omega)), hs (3 + 4 * n) 3 (by omega) (nSc (by omega)), hs (3 + 4 * n) 4 (by omega) (nSc (by omega)), hs (3 + 4 * n) 5 (by omega) (nSc (by omega)), hs (3 + 4 * n) 6 (by omega) (nSc (by omega)), hs (3 + 4 * n) 7 (by omega) (nSc (by omega)), e1, hs (3 + 4 * n) 9 (by omega) (nSc (by omega)), hs (3 + 4 * n) 10 (by omega) (nSc (by omega)), hs (3 + 4 * n) 11 (by omega) (nSc (by omega)), hs 106 n (by omega) (nSc (by omega)), hs 107 n (by omega) (nSc (by omega)), hs 108 n (by omega) (nSc (by omega)), hs 109 n (by omega) (nSc (by omega)), hs 110 n (by omega) (nSc (by omega)), hs 111 n (by omega) (nSc (by omega)), hs 112 n (by omega) (nSc (by omega)), hs 113 n (by omega) (nSc (by omega)), hs 114 n (by omega) (nSc (by omega)), e2, hs 119 n (by omega) (nSc (by omega)), hs 120 n (by omega) (nSc (by omega)), hs 1 1 (by omega) (nSc (by omega))]
    exact ⟨⟨a0, a1, a2, a3, a4, a5, a6⟩, ⟨b7, b9, b10, b11⟩, ⟨c106, c107, c108, c109, c110, c111, c112, c113, c119, c114⟩, fun _ => rfl, fun q => absurd hb q, q1.mono (by decide) (by decide)⟩
  · have g := h.2.2.1 n j hn hj
    unfold R_pil at g ⊢
    rw [hs (3 + 4 * n + 1) j (by omega) (nSc (by omega)), hs (3 + 4 * n + 2) j (by omega) (nSc (by omega)), hs (3 + 4 * n + 3) j (by omega) (nSc (by omega)), hs 115 (6 * n + j) (by omega) (nSc (by omega)), hs 116 (6 * n + j) (by omega) (nSc (by omega)), hs 118 (6 * n + j) (by omega) (nSc (by omega)), hs 114 n (by omega) (nSc (by omega))]
    exact g
theorem Inv.fellp {I I' : Nat → Nat → Int32} {n : Nat} (h : Inv I) (hn : n < 8) (hb : Int32.ofInt (n : Int) < I 1 1) {p : Nat} {v : Int32} (hp : p < 6) (q1 : gR v (-9) 8) (hs : ∀ a k, ¬ ((a = 3 + 4 * n + 3 ∧ k = p) ∨ (a = 118 ∧ k = 6 * n + p)) → ¬ Sc a k → I' a k = I a k) (e1 : I' (3 + 4 * n + 3) p = v) (e2 : I' 118 (6 * n + p) = v) : Inv I' := by
  obtain ⟨⟨a0, a1, a2, a3, a4, a5, a6⟩, ⟨b7, b9, b10, b11⟩, ⟨c106, c107, c108, c109, c110, c111, c112, c113, c119, c114⟩, d1, d2, d3⟩ := h.2.1 n hn
  refine h.f_house hn (fun a k p q => hs a k (by omega) q) ?_ (fun j hj => ?_)
  · unfold R_house
    rw [hs (3 + 4 * n) 0 (by omega) (nSc (by omega)), hs (3 + 4 * n) 1 (by omega) (nSc (by omega)), hs (3 + 4 * n) 2 (by omega) (nSc (by omega)), hs (3 + 4 * n) 3 (by omega) (nSc (by omega)), hs (3 + 4 * n) 4 (by omega) (nSc (by omega)), hs (3 + 4 * n) 5 (by omega) (nSc (by omega)), hs (3 + 4 * n) 6 (by omega) (nSc (by omega)), hs (3 + 4 * n) 7 (by omega) (nSc (by omega)), hs (3 + 4 * n) 8 (by omega) (nSc (by omega)), hs (3 + 4 * n) 9 (by omega) (nSc (by omega)), hs (3 + 4 * n) 10 (by omega) (nSc (by omega)), hs (3 + 4 * n) 11 (by omega) (nSc (by omega)), hs 106 n (by omega) (nSc (by omega)), hs 107 n (by omega) (nSc (by omega)), hs 108 n (by omega) (nSc (by omega)), hs 109 n (by omega) (nSc (by omega)), hs 110 n (by omega) (nSc (by omega)), hs 111 n (by omega) (nSc (by omega)), hs 112 n (by omega) (nSc (by omega)), hs 113 n (by omega) (nSc (by omega)), hs 114 n (by omega) (nSc (by omega)), hs 117 n (by omega) (nSc (by omega)), hs 119 n (by omega) (nSc (by omega)), hs 120 n (by omega) (nSc (by omega)), hs 1 1 (by omega) (nSc (by omega))]
    exact ⟨⟨a0, a1, a2, a3, a4, a5, a6⟩, ⟨b7, b9, b10, b11⟩, ⟨c106, c107, c108, c109, c110, c111, c112, c113, c119, c114⟩, d1, fun q => absurd hb q, d3⟩
  · have g := h.2.2.1 n j hn hj
    unfold R_pil at g ⊢
    by_cases hjp : j = p
    · subst hjp
      rw [e1, e2, hs (3 + 4 * n + 1) j (by omega) (nSc (by omega)), hs (3 + 4 * n + 2) j (by omega) (nSc (by omega)), hs 115 (6 * n + j) (by omega) (nSc (by omega)), hs 116 (6 * n + j) (by omega) (nSc (by omega)), hs 114 n (by omega) (nSc (by omega))]
      exact ⟨g.1, g.2.1, fun _ => rfl, g.2.2.2.1, g.2.2.2.2.1, q1⟩
    · rw [hs (3 + 4 * n + 1) j (by omega) (nSc (by omega)), hs (3 + 4 * n + 2) j (by omega) (nSc (by omega)), hs 115 (6 * n + j) (by omega) (nSc (by omega)), hs 116 (6 * n + j) (by omega) (nSc (by omega)), hs 114 n (by omega) (nSc (by omega)), hs (3 + 4 * n + 3) j (by omega) (nSc (by omega)), hs 118 (6 * n + j) (by omega) (nSc (by omega))]
      exact g
theorem Inv.ckl {I I' : Nat → Nat → Int32} {n : Nat} (h : Inv I) (hn : n < 8) (hb : Int32.ofInt (n : Int) < I 1 1) {v : Int32} (hs : ∀ a k, ¬ ((a = 3 + 4 * n ∧ (k = 9 ∨ k = 10)) ∨ ((a = 119 ∨ a = 120) ∧ k = n)) → ¬ Sc a k → I' a k = I a k) (e1 : I' (3 + 4 * n) 9 = 1) (e2 : I' (3 + 4 * n) 10 = v) (e3 : I' 119 n = 1) (e4 : I' 120 n = v) : Inv I' := by
  obtain ⟨⟨a0, a1, a2, a3, a4, a5, a6⟩, ⟨b7, b9, b10, b11⟩, ⟨c106, c107, c108, c109, c110, c111, c112, c113, c119, c114⟩, d1, d2, d3⟩ := h.2.1 n hn
  refine h.f_house hn (fun a k p q => hs a k (by omega) q) ?_ (fun j hj => ?_)
  · unfold R_house
    rw [hs (3 + 4 * n) 0 (by omega) (nSc (by omega)), hs (3 + 4 * n) 1 (by omega) (nSc (by omega)), hs (3 + 4 * n) 2 (by omega) (nSc (by omega)), hs (3 + 4 * n) 3 (by omega) (nSc (by omega)), hs (3 + 4 * n) 4 (by omega) (nSc (by omega)), hs (3 + 4 * n) 5 (by omega) (nSc (by omega)), hs (3 + 4 * n) 6 (by omega) (nSc (by omega)), hs (3 + 4 * n) 7 (by omega) (nSc (by omega)), hs (3 + 4 * n) 8 (by omega) (nSc (by omega)), e1, e2, hs (3 + 4 * n) 11 (by omega) (nSc (by omega)), hs 106 n (by omega) (nSc (by omega)), hs 107 n (by omega) (nSc (by omega)), hs 108 n (by omega) (nSc (by omega)), hs 109 n (by omega) (nSc (by omega)), hs 110 n (by omega) (nSc (by omega)), hs 111 n (by omega) (nSc (by omega)), hs 112 n (by omega) (nSc (by omega)), hs 113 n (by omega) (nSc (by omega)), hs 114 n (by omega) (nSc (by omega)), hs 117 n (by omega) (nSc (by omega)), e3, e4, hs 1 1 (by omega) (nSc (by omega))]
    exact ⟨⟨a0, a1, a2, a3, a4, a5, a6⟩, ⟨b7, rfl, rfl, b11⟩, ⟨c106, c107, c108, c109, c110, c111, c112, c113, Or.inr rfl, c114⟩, d1, fun q => absurd hb q, d3⟩
  · have g := h.2.2.1 n j hn hj
    unfold R_pil at g ⊢
    rw [hs (3 + 4 * n + 1) j (by omega) (nSc (by omega)), hs (3 + 4 * n + 2) j (by omega) (nSc (by omega)), hs (3 + 4 * n + 3) j (by omega) (nSc (by omega)), hs 115 (6 * n + j) (by omega) (nSc (by omega)), hs 116 (6 * n + j) (by omega) (nSc (by omega)), hs 118 (6 * n + j) (by omega) (nSc (by omega)), hs 114 n (by omega) (nSc (by omega))]
    exact g
theorem gR.no8 {w : Int32} (h : gR w 0 8) (n : ¬ w = 8) : gR w 0 7 := by
  obtain ⟨z, z1, z2, rfl⟩ := h
  refine ⟨z, z1, ?_, rfl⟩
  rw [show (8 : Int32) = Int32.ofInt 8 from rfl, oi_eq (by omega) (by omega)] at n
  omega
theorem Inv.i_bl {A B : Nat → Nat → Int32} {c : Nat} {f w : Int32} (h : Inv (mx A B)) (hn : c < 8) (hb : Int32.ofInt (c : Int) < A 1 1) (hw : gR w 0 8) : Inv (mx (s_bl A (3 + 4 * c) f w) (r_bl B c f w)) := by
  have g := h.2.1 c hn
  have hb' : Int32.ofInt (c : Int) < mx A B 1 1 := by rw [mx_lo (by omega)]; exact hb
  have e8 := g.2.2.2.1 hb'
  have e3 := g.1.2.2.2.1
  rw [mx_lo (by omega), mx_hi (by omega)] at e8 e3
  unfold s_bl r_bl
  rw [e8, e3]
  by_cases q : B 117 c = -9 ∧ ¬ w = 8 ∧ ¬ f < B 109 c
  · rw [if_pos q, if_pos q]
    refine h.ballw hn hb' (hw.no8 q.2.1) ?_ (by rw [mx_lo (by omega), am_up_at]) (by rw [mx_hi (by omega), am_up_at])
    intro a k p q
    by_cases ha : a < 105
    · rw [mx_lo ha, mx_lo ha, am_upv, if_neg (by omega)]
    · rw [mx_hi (by omega), mx_hi (by omega), am_upv, if_neg (by omega)]
  · rw [if_neg q, if_neg q]
    exact h
theorem Inv.i_p1 {A B : Nat → Nat → Int32} {c m : Nat} {f w : Int32} (h : Inv (mx A B)) (hn : c < 8) (hb : Int32.ofInt (c : Int) < A 1 1) (hm : m < 6) (hP : Int32.ofInt (m : Int) < B 114 c) (hw : gR w 0 8) : Inv (mx (s_p1 A (3 + 4 * c) f w m) (r_p1 B c f w m)) := by
  have hb' : Int32.ofInt (c : Int) < mx A B 1 1 := by rw [mx_lo (by omega)]; exact hb
  obtain ⟨g1, g2, g3, g4, g5, g6⟩ := h.2.2.1 c m hn hm
  have g3 := g3 (by rw [mx_hi (by omega)]; exact hP)
  rw [mx_lo (by omega), mx_hi (by omega)] at g1 g2 g3
  rw [mx_hi (by omega)] at g5
  unfold s_p1 r_p1 v_fal
  rw [need_nf, ft_eq (by rw [oi_cln (by omega), g2]; exact g5), oi_cln (by omega), g1, g2, g3, near_eq g5 hw]
  have hv := ft_gR g5 hw
  revert hv
  generalize v_ft (B 116 (6 * c + m)) w = v
  generalize B 115 (6 * c + m) - (if v_isNear (B 116 (6 * c + m)) w = 0 then 0 else 20) = nd
  intro hv
  by_cases q1 : B 118 (6 * c + m) = -9
  · rw [if_pos q1]
    by_cases q2 : f < nd
    · rw [if_neg (fun r => r.2 q2), if_neg (Int32.not_le.mpr q2)]
      have e : am_up B 118 (6 * c + m) (-9) = B := by
        funext a k
        rw [am_upv]
        by_cases r : a = 118 ∧ k = 6 * c + m
        · rw [if_pos r, r.1, r.2, q1]
        · rw [if_neg r]
      rw [e]
      exact h
    · rw [if_pos ⟨q1, q2⟩, if_pos (Int32.not_lt.mp q2)]
      refine h.fellp hn hb' hm (hv.mono (by decide) (by decide)) ?_ (by rw [mx_lo (by omega), am_up_at]) (by rw [mx_hi (by omega), am_up_at])
      intro a k p q
      by_cases ha : a < 105
      · rw [mx_lo ha, mx_lo ha, am_upv, if_neg (by omega)]
      · rw [mx_hi (by omega), mx_hi (by omega), am_upv, if_neg (by omega)]
  · rw [if_neg (fun r => q1 r.1), if_neg q1]
    exact h
theorem Inv.i_ck {A B : Nat → Nat → Int32} {c : Nat} {f t : Int32} (h : Inv (mx A B)) (hn : c < 8) (hb : Int32.ofInt (c : Int) < A 1 1) : Inv (mx (s_ck A (3 + 4 * c) f t) (r_ck B c f t)) := by
  have g := h.2.1 c hn
  have hb' : Int32.ofInt (c : Int) < mx A B 1 1 := by rw [mx_lo (by omega)]; exact hb
  have e7 := g.2.1.1
  have e9 := g.2.1.2.1
  have e4 := g.1.2.2.2.2.1
  have e5 := g.1.2.2.2.2.2.1
  have gb := g.2.2.1.2.2.2.2.2.2.2.1
  rw [mx_lo (by omega), mx_hi (by omega)] at e7 e9 e4 e5
  rw [mx_hi (by omega)] at gb
  unfold s_ck r_ck
  have e : (¬ (1 - B 113 c) = 0) = (B 113 c = 0) := by
    rcases gb with q | q <;> rw [q] <;> decide
  rw [e7, e9, e4, e5]
  by_cases q : B 113 c = 0 ∧ B 119 c = 0 ∧ ¬ f < B 110 c
  · rw [if_pos ⟨e.mpr q.1, q.2⟩, if_pos q]
    refine h.ckl (v := t + B 111 c) hn hb' ?_ (by rw [mx_lo (by omega), am_upv, if_neg (by omega), am_up_at]) (by rw [mx_lo (by omega), am_up_at]) (by rw [mx_hi (by omega), am_upv, if_neg (by omega), am_up_at]) (by rw [mx_hi (by omega), am_up_at])
    intro a k p q
    by_cases ha : a < 105
    · rw [mx_lo ha, mx_lo ha, am_upv, if_neg (by omega), am_upv, if_neg (by omega)]
    · rw [mx_hi (by omega), mx_hi (by omega), am_upv, if_neg (by omega), am_upv, if_neg (by omega)]
  · rw [if_neg (fun r => q ⟨e.mp r.1, r.2⟩), if_neg q]
    exact h
theorem Inv.i_hs {A B : Nat → Nat → Int32} {c : Nat} {f w t : Int32} (h : Inv (mx A B)) (hn : c < 8) (hb : Int32.ofInt (c : Int) < A 1 1) (hw : gR w 0 8) : Inv (mx (s_hs A (3 + 4 * c) f w t) (r_h B c f w t)) := by
  have g := h.2.1 c hn
  have e11 := g.2.1.2.2.2
  have gp := g.2.2.1.2.2.2.2.2.2.2.2.2
  rw [mx_lo (by omega), mx_hi (by omega)] at e11
  rw [mx_hi (by omega)] at gp
  obtain ⟨en, ln⟩ := gp.nat (by decide)
  unfold s_hs r_h
  rw [e11]
  have i2 : ∀ m, m ≤ Int32.toNatClampNeg (B 114 c) → Inv (mx (s_pl (s_bl A (3 + 4 * c) f w) (3 + 4 * c) f w m) (r_pl (r_bl B c f w) c f w m)) := by
    intro m
    induction m with
    | zero => intro _; exact h.i_bl hn hb hw
    | succ m ih =>
      intro hm
      rw [s_pl_s, r_pl_s]
      refine (ih (by omega)).i_p1 hn ?_ (by omega) ?_ hw
      · rw [s_pl_fr (by omega), s_bl_fr (by omega)]
        exact hb
      · rw [r_pl_fr (by omega), r_bl_fr (by omega), en, oi_lt (by omega) (by omega)]
        omega
  refine (i2 _ (Nat.le_refl _)).i_ck hn ?_
  rw [s_pl_fr (by omega), s_bl_fr (by omega)]
  exact hb
def s_all (A : Nat → Nat → Int32) (x y z s kd t : Int32) : Nat → Nat → Nat → Int32
  | 0 => A
  | h + 1 => s_hs (s_all A x y z s kd t h) (3 + 4 * h) (v_forceOf (v_farOf ((s_all A x y z s kd t h (3 + 4 * h) 1) - x) ((s_all A x y z s kd t h (3 + 4 * h) 2) - y) z) s) (if kd = 0 then v_wayOf ((s_all A x y z s kd t h (3 + 4 * h) 1) - x) ((s_all A x y z s kd t h (3 + 4 * h) 2) - y) else 8) (t + v_delay (v_farOf ((s_all A x y z s kd t h (3 + 4 * h) 1) - x) ((s_all A x y z s kd t h (3 + 4 * h) 2) - y) z))
theorem s_all_s (A : Nat → Nat → Int32) (x y z s kd t : Int32) (h : Nat) : s_all A x y z s kd t (h + 1) = s_hs (s_all A x y z s kd t h) (3 + 4 * h) (v_forceOf (v_farOf ((s_all A x y z s kd t h (3 + 4 * h) 1) - x) ((s_all A x y z s kd t h (3 + 4 * h) 2) - y) z) s) (if kd = 0 then v_wayOf ((s_all A x y z s kd t h (3 + 4 * h) 1) - x) ((s_all A x y z s kd t h (3 + 4 * h) 2) - y) else 8) (t + v_delay (v_farOf ((s_all A x y z s kd t h (3 + 4 * h) 1) - x) ((s_all A x y z s kd t h (3 + 4 * h) 2) - y) z)) := rfl
def r_all (B : Nat → Nat → Int32) (x y z s kd t : Int32) : Nat → Nat → Nat → Int32
  | 0 => B
  | h + 1 => r_hs (r_all B x y z s kd t h) (Int32.ofInt (h : Int)) x y z s kd t
theorem r_all_s (B : Nat → Nat → Int32) (x y z s kd t : Int32) (h : Nat) : r_all B x y z s kd t (h + 1) = r_hs (r_all B x y z s kd t h) (Int32.ofInt (h : Int)) x y z s kd t := rfl
theorem s_all_fr {A : Nat → Nat → Int32} {x y z s kd t : Int32} {c k : Nat} : ∀ h, h ≤ 8 → ¬ (3 ≤ c ∧ c ≤ 34) → s_all A x y z s kd t h c k = A c k := by
  intro h
  induction h with
  | zero => intro _ _; rfl
  | succ h ih =>
    intro hh hc
    rw [s_all_s, s_hs_fr (by omega)]
    exact ih (by omega) hc
theorem r_all_fr {B : Nat → Nat → Int32} {x y z s kd t : Int32} {c k : Nat} (hc : ¬ (117 ≤ c ∧ c ≤ 120)) : ∀ h, r_all B x y z s kd t h c k = B c k := by
  intro h
  induction h with
  | zero => rfl
  | succ h ih =>
    rw [r_all_s]
    unfold r_hs
    rw [r_h_fr hc]
    exact ih
theorem sh_inv {A B : Nat → Nat → Int32} {x y z s kd t : Int32} {n : Nat} (h0 : Inv (mx A B)) (hx : gR x 0 11) (hy : gR y 0 11) (hz : gR z 0 3) (hk : kd = 0 ∨ kd = 1) (hn : A 1 1 = Int32.ofInt (n : Int)) (n8 : n ≤ 8) : ∀ h, h ≤ n → Inv (mx (s_all A x y z s kd t h) (r_all B x y z s kd t h)) := by
  intro h
  induction h with
  | zero => intro _; exact h0
  | succ h ih =>
    intro hh
    have i := ih (by omega)
    have f1 : s_all A x y z s kd t h 1 1 = Int32.ofInt (n : Int) := (s_all_fr h (by omega) (by omega)).trans hn
    rw [s_all_s, r_all_s]
    unfold r_hs
    rw [oi_cln (by omega)]
    revert i f1
    generalize s_all A x y z s kd t h = A'
    generalize r_all B x y z s kd t h = B'
    intro i f1
    have hb : Int32.ofInt (h : Int) < A' 1 1 := by
      rw [f1, oi_lt (by omega) (by omega)]
      omega
    have g := i.2.1 h (by omega)
    have e1 := g.1.2.1
    have e2 := g.1.2.2.1
    have c7 := g.2.2.1.2.1
    have c8 := g.2.2.1.2.2.1
    rw [mx_lo (by omega), mx_hi (by omega)] at e1 e2
    rw [mx_hi (by omega)] at c7 c8
    have hf := farR c7 hx c8 hy hz
    have ef : v_farOf (B' 107 h - x) (B' 108 h - y) z = v_m_farOf (B' 107 h - x) (B' 108 h - y) z := rfl
    rw [e1, e2, ef, force_eq hf, delay_eq hf]
    rcases hk with rfl | rfl
    · rw [if_pos rfl, way_eq (c7.sub hx) (c8.sub hy)]
      exact i.i_hs (by omega) hb way_gR
    · rw [if_neg (by decide), way_1]
      exact i.i_hs (by omega) hb ⟨8, by decide, by decide, rfl⟩
def m_ce (I : Nat → Nat → Int32) (n : Nat) (x y s t : Int32) : Nat → Nat → Int32 := am_up (am_up (am_up (am_up (am_up I 92 n x) 93 n y) 94 n s) 95 n t) 91 4 (Int32.ofInt (n : Int) + 1)
def m_re (I : Nat → Nat → Int32) (n : Nat) (x y s t : Int32) : Nat → Nat → Int32 := am_up (am_up (am_up (am_up (am_up I 124 n x) 125 n y) 126 n s) 127 n t) 105 21 (Int32.ofInt (n : Int) + 1)
theorem Inv.en2 {A B : Nat → Nat → Int32} {n : Nat} {x y s t : Int32} (h : Inv (mx A B)) (hn : n < 12) (hx : gR x 0 11) (hy : gR y 0 11) (hS : gR s 1 12) (ht : gR t 0 1000000) : Inv (mx (m_ce A n x y s t) (m_re B n x y s t)) := by
  refine h.enter (n := n) hn hx hy hS ht ?_ (by rw [mx_lo (by omega)]; unfold m_ce; repeat (first | rw [am_upv, if_neg (by omega)] | rw [am_upv, if_pos (by omega)])) (by rw [mx_hi (by omega)]; unfold m_re; repeat (first | rw [am_upv, if_neg (by omega)] | rw [am_upv, if_pos (by omega)])) (by rw [mx_lo (by omega)]; unfold m_ce; repeat (first | rw [am_upv, if_neg (by omega)] | rw [am_upv, if_pos (by omega)])) (by rw [mx_lo (by omega)]; unfold m_ce; repeat (first | rw [am_upv, if_neg (by omega)] | rw [am_upv, if_pos (by omega)])) (by rw [mx_lo (by omega)]; unfold m_ce; repeat (first | rw [am_upv, if_neg (by omega)] | rw [am_upv, if_pos (by omega)])) (by rw [mx_lo (by omega)]; unfold m_ce; repeat (first | rw [am_upv, if_neg (by omega)] | rw [am_upv, if_pos (by omega)])) (by rw [mx_hi (by omega)]; unfold m_re; repeat (first | rw [am_upv, if_neg (by omega)] | rw [am_upv, if_pos (by omega)])) (by rw [mx_hi (by omega)]; unfold m_re; repeat (first | rw [am_upv, if_neg (by omega)] | rw [am_upv, if_pos (by omega)])) (by rw [mx_hi (by omega)]; unfold m_re; repeat (first | rw [am_upv, if_neg (by omega)] | rw [am_upv, if_pos (by omega)])) (by rw [mx_hi (by omega)]; unfold m_re; repeat (first | rw [am_upv, if_neg (by omega)] | rw [am_upv, if_pos (by omega)]))
  intro a k p q
  by_cases ha : a < 105
  · rw [mx_lo ha, mx_lo ha]
    unfold m_ce
    repeat rw [am_upv, if_neg (by omega)]
  · rw [mx_hi (by omega), mx_hi (by omega)]
    unfold m_re
    repeat rw [am_upv, if_neg (by omega)]
theorem chainN {I : Nat → Nat → Int32} {n : Nat} (h : I 91 4 = Int32.ofInt (n : Int)) (hn : n < 12) : v_chainFull I = 0 := by
  unfold v_chainFull
  rw [h, show (12 : Int32) = Int32.ofInt 12 from rfl, if_pos ((oi_lt (by omega) (by omega)).mpr (by omega))]
theorem shake_sp {x y z s kd : Int32} (h : ¬ v_isShake x y z s kd = 0) : gR x 0 11 ∧ gR y 0 11 ∧ gR z 0 3 ∧ gR s 1 12 ∧ (kd = 0 ∨ kd = 1) := by
  unfold v_isShake at h
  by_cases c1 : v_isPlace x y = 0
  · rw [if_pos c1] at h; exact absurd rfl h
  rw [if_neg c1] at h
  by_cases c2 : v_isWithin z 0 3 = 0
  · rw [if_pos c2] at h; exact absurd rfl h
  rw [if_neg c2] at h
  by_cases c3 : v_isWithin s 1 12 = 0
  · rw [if_pos c3] at h; exact absurd rfl h
  rw [if_neg c3] at h
  by_cases c4 : v_isWithin kd 0 1 = 0
  · rw [if_pos c4] at h; exact absurd rfl h
  refine ⟨(place_sp c1).1, (place_sp c1).2, within_gR (lo := 0) (hi := 3) c2 (by decide) (by decide) (by decide) (by decide), within_gR (lo := 1) (hi := 12) c3 (by decide) (by decide) (by decide) (by decide), ?_⟩
  obtain ⟨q, q1, q2, rfl⟩ := within_gR (lo := 0) (hi := 1) c4 (by decide) (by decide) (by decide) (by decide)
  have : q = 0 ∨ q = 1 := by omega
  rcases this with rfl | rfl
  · exact Or.inl rfl
  · exact Or.inr rfl
theorem wl_88 {X : am_X} {d : Nat} {I : Nat → Nat → Int32} {J : Nat → Nat → Int64} {Q : Option Value → am_M → Prop} {n N : Nat} {x0 x1 x2 x3 x4 x5 : Int32} (hI : Inv I) (hx : gR x0 0 11) (hy : gR x1 0 11) (hz : gR x2 0 3) (hk : x4 = 0 ∨ x4 = 1) (hn : I 1 1 = Int32.ofInt (n : Int)) (n8 : n ≤ 8) (hN : I 91 4 = Int32.ofInt (N : Int)) (n12 : N < 12) (k : Q (some (.int (Int32.ofInt (N : Int)))) (am_N (m_ce (s_all I x0 x1 x2 x3 x4 x5 n) N x0 x1 x3 x5) J)) : ∀ m : Nat, m ≤ n → ∀ u1 u2 u3 : Value, u1.category = 1 → u2.category = 1 → u3.category = 1 → am_wp X (d + 3) 88 40 [.ref 0, .int x0, .int x1, .int x2, .int x3, .int x4, .int x5, .int (Int32.ofInt (m : Int)), u1, u2, u3] [] (am_N (s_all I x0 x1 x2 x3 x4 x5 m) J) Q := by
  have h0 : Inv (mx I I) := by rw [mx_l (fun a k _ => rfl)]; exact hI
  have f1 : ∀ m, m ≤ n → s_all I x0 x1 x2 x3 x4 x5 m 1 1 = Int32.ofInt (n : Int) := fun m hm => (s_all_fr m (by omega) (by omega)).trans hn
  refine am_down ?_ ?_
  · intro u1 u2 u3 hu1 hu2 hu3
    have e1 := f1 n (Nat.le_refl _)
    have eN : s_all I x0 x1 x2 x3 x4 x5 n 91 4 = Int32.ofInt (N : Int) := (s_all_fr n n8 (by omega)).trans hN
    refine c_88_40 hu1 hu2 hu3 ⟨fun _ => ⟨chainN eN n12, ?_⟩, fun h => absurd (by rw [e1]; exact Int32.le_refl _) h⟩
    rw [eN, oi_cln (by omega)]
    exact ⟨oi_ix (by omega) (by omega) (by omega), k⟩
  · intro m hm ih u1 u2 u3 hu1 hu2 hu3
    have e1 := f1 m (by omega)
    have i := sh_inv (s := x3) (t := x5) h0 hx hy hz hk hn n8 m (by omega)
    have g := i.2.1 m (by omega)
    have e11 := g.2.1.2.2.2
    have gp := g.2.2.1.2.2.2.2.2.2.2.2.2
    rw [← e11, mx_lo (by omega)] at gp
    rw [s_all_s, ← oi_succ] at ih
    refine c_88_40 hu1 hu2 hu3 ⟨fun h => absurd h (by rw [e1, oi_le (by omega) (by omega)]; omega), fun _ => ⟨oi_ix (by omega) (by omega) (by omega), ?_⟩⟩
    rw [oi_cln (by omega)]
    refine ⟨fun h => ⟨gp, ?_⟩, fun h => ⟨gp, ?_⟩⟩
    · rw [if_pos h] at ih
      exact ih _ _ _ rfl rfl rfl
    · rw [if_neg h] at ih
      exact ih _ _ _ rfl rfl rfl
theorem wl_172 {X : am_X} {d : Nat} {A I : Nat → Nat → Int32} {J : Nat → Nat → Int64} {Q : Option Value → am_M → Prop} {n N : Nat} {x0 x1 x2 x3 x4 x5 : Int32} (hI : Inv (mx A I)) (hx : gR x0 0 11) (hy : gR x1 0 11) (hz : gR x2 0 3) (hk : x4 = 0 ∨ x4 = 1) (hA : A 1 1 = Int32.ofInt (n : Int)) (hn : I 105 2 = Int32.ofInt (n : Int)) (n8 : n ≤ 8) (hN : I 105 21 = Int32.ofInt (N : Int)) (n12 : N < 12) (k : Q (some (.int (Int32.ofInt (N : Int)))) (am_N (m_re (r_all I x0 x1 x2 x3 x4 x5 n) N x0 x1 x3 x5) J)) : ∀ m : Nat, m ≤ n → am_wp X (d + 3) 172 42 [.ref 105, .int x0, .int x1, .int x2, .int x3, .int x4, .int x5, .int (Int32.ofInt (m : Int))] [] (am_N (r_all I x0 x1 x2 x3 x4 x5 m) J) Q := by
  have f1 : ∀ m, r_all I x0 x1 x2 x3 x4 x5 m 105 2 = Int32.ofInt (n : Int) := fun m => (r_all_fr (by omega) m).trans hn
  refine am_down ?_ ?_
  · have e1 := f1 n
    have eN : r_all I x0 x1 x2 x3 x4 x5 n 105 21 = Int32.ofInt (N : Int) := (r_all_fr (by omega) n).trans hN
    refine c_172_42 ⟨fun _ => ?_, fun h => absurd (by rw [e1]; exact Int32.le_refl _) h⟩
    rw [eN, oi_cln (by omega)]
    exact ⟨oi_ix (by omega) (by omega) (by omega), k⟩
  · intro m hm ih
    have e1 := f1 m
    have i := sh_inv (s := x3) (t := x5) hI hx hy hz hk hA n8 m (by omega)
    have g := (i.2.1 m (by omega)).2.2.1
    have gp := g.2.2.2.2.2.2.2.2.2
    have c7 := g.2.1
    have c8 := g.2.2.1
    rw [mx_hi (by omega)] at gp c7 c8
    rw [r_all_s, ← oi_succ] at ih
    refine c_172_42 ⟨fun h => absurd h (by rw [e1, oi_le (by omega) (by omega)]; omega), fun _ => ⟨⟨oi_ix (by omega) (by omega) (by omega), ?_, ?_⟩, ih⟩⟩
    · rw [oi_cln (by omega)]
      exact gp
    · rw [oi_cln (by omega)]
      exact farR c7 hx c8 hy hz
theorem a_88 {X : am_X} {d : Nat} {I : Nat → Nat → Int32} {J : Nat → Nat → Int64} {Q : Option Value → am_M → Prop} {x0 x1 x2 x3 x4 x5 : Int32} (hI : Inv I) (k : ∀ (r : Int32) (I1 : Nat → Nat → Int32) (J1 : Nat → Nat → Int64), Md 172 3 [.ref 105, .int x0, .int x1, .int x2, .int x3, .int x4, .int x5, am_uv] (fun v => v = .int r) I1 → Q (some (.int r)) (am_N I1 J1)) : am_wp X (d + 3) 88 0 [.ref 0, .int x0, .int x1, .int x2, .int x3, .int x4, .int x5, am_uv, am_uv, am_uv, am_uv] [] (am_N I J) Q := by
  refine c_88 hI ⟨fun h => ?_, fun hs => ⟨fun h => ?_, fun ht => ⟨fun hf => ?_, fun hf => ?_⟩⟩⟩
  · refine k _ _ _ ?_
    intro X d J Q k'
    exact b_172 (I := I) am_ag.rf ⟨fun _ => k' _ _ _ rfl hI, fun h' => absurd h h'⟩
  · refine k _ _ _ ?_
    intro X d J Q k'
    exact b_172 (I := I) am_ag.rf ⟨fun h' => absurd h' hs, fun _ => ⟨fun _ => k' _ _ _ rfl hI, fun h' => absurd h h'⟩⟩
  · obtain ⟨sx, sy, sz, ss, sk⟩ := shake_sp hs
    have st := time_sp ht
    obtain ⟨en, ln⟩ := hI.1.1.nat (by decide)
    obtain ⟨eN, lN⟩ := hI.2.2.2.1.1.nat (by decide)
    have e2 : I 105 2 = I 1 1 := hI.1.2
    have e21 : I 105 21 = I 91 4 := hI.2.2.2.1.2
    rw [hI.chainF, e21] at hf
    revert lN
    revert eN
    revert ln
    revert en
    generalize Int32.toNatClampNeg (I 1 1) = n
    generalize Int32.toNatClampNeg (I 91 4) = N
    intro en ln eN lN
    have N12 : N < 12 := by
      rw [eN, show (12 : Int32) = Int32.ofInt 12 from rfl, oi_eq (by omega) (by omega)] at hf
      omega
    refine wl_88 hI sx sy sz sk en (by omega) eN N12 (k _ _ _ ?_) 0 (by omega) _ _ _ rfl rfl rfl
    have fM : ∀ a k, 105 ≤ a → m_ce (s_all I x0 x1 x2 x3 x4 x5 n) N x0 x1 x3 x5 a k = I a k := by
      intro a k h
      unfold m_ce
      rw [am_upv, if_neg (by omega), am_upv, if_neg (by omega), am_upv, if_neg (by omega), am_upv, if_neg (by omega), am_upv, if_neg (by omega), s_all_fr n (by omega) (by omega)]
    intro X d J Q k'
    refine b_172 (I := I) (fun a ha => funext fun k => fM a k ha) ⟨fun h' => absurd h' hs, fun _ => ⟨fun h' => absurd h' ht, fun _ => ⟨fun q => absurd (e21.symm.trans q) hf, fun _ => ?_⟩⟩⟩
    revert fM
    generalize hM : m_ce (s_all I x0 x1 x2 x3 x4 x5 n) N x0 x1 x3 x5 = M
    intro fM
    have i0 : Inv (mx I M) := by rw [mx_l (fun a k h => fM a k h)]; exact hI
    refine wl_172 i0 sx sy sz sk en ((fM 105 2 (by omega)).trans (e2.trans en)) (by omega) ((fM 105 21 (by omega)).trans (e21.trans eN)) N12 (k' _ _ _ rfl ?_) 0 (by omega)
    have i1 := (sh_inv (s := x3) (t := x5) i0 sx sy sz sk en (by omega) n (Nat.le_refl _)).en2 (n := N) N12 sx sy ss st
    rw [hM, mx_r] at i1
    · exact i1
    · intro a k h
      unfold m_re
      rw [am_upv, if_neg (by omega), am_upv, if_neg (by omega), am_upv, if_neg (by omega), am_upv, if_neg (by omega), am_upv, if_neg (by omega), r_all_fr (by omega)]
  · refine k _ _ _ ?_
    have e21 : I 105 21 = I 91 4 := hI.2.2.2.1.2
    rw [hI.chainF, Classical.not_not] at hf
    intro X d J Q k'
    exact b_172 (I := I) am_ag.rf ⟨fun h' => absurd h' hs, fun _ => ⟨fun h' => absurd h' ht, fun _ => ⟨fun _ => k' _ _ _ rfl hI, fun q => absurd hf q⟩⟩⟩
