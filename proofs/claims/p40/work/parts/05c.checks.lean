theorem am_tJ_0_0 : T_c0_0.all (am_cJ 0) = true := by decide +kernel
theorem am_tJ_0_1 : T_c0_1.all (am_cJ 0) = true := by decide +kernel
theorem am_tJ_0 : T_c0.all (am_cJ 0) = true := by
  unfold T_c0
  rw [List.all_append]
  simp only [am_tJ_0_0, am_tJ_0_1, Bool.and_self]
theorem am_tJ_1_0 : T_c1_0.all (am_cJ 1) = true := by decide +kernel
theorem am_tJ_1 : T_c1.all (am_cJ 1) = true := am_tJ_1_0
theorem am_tJ_2_0 : T_c2_0.all (am_cJ 2) = true := by decide +kernel
theorem am_tJ_2 : T_c2.all (am_cJ 2) = true := am_tJ_2_0
theorem am_tJ_3_0 : T_c3_0.all (am_cJ 3) = true := by decide +kernel
theorem am_tJ_3 : T_c3.all (am_cJ 3) = true := am_tJ_3_0
theorem am_tJ_4_0 : T_c4_0.all (am_cJ 4) = true := by decide +kernel
theorem am_tJ_4 : T_c4.all (am_cJ 4) = true := am_tJ_4_0
theorem am_tJ_5_0 : T_c5_0.all (am_cJ 5) = true := by decide +kernel
theorem am_tJ_5 : T_c5.all (am_cJ 5) = true := am_tJ_5_0
theorem am_tJ_6_0 : T_c6_0.all (am_cJ 6) = true := by decide +kernel
theorem am_tJ_6 : T_c6.all (am_cJ 6) = true := am_tJ_6_0
theorem am_tJ_7_0 : T_c7_0.all (am_cJ 7) = true := by decide +kernel
theorem am_tJ_7 : T_c7.all (am_cJ 7) = true := am_tJ_7_0
theorem am_tJ_8_0 : T_c8_0.all (am_cJ 8) = true := by decide +kernel
theorem am_tJ_8 : T_c8.all (am_cJ 8) = true := am_tJ_8_0
theorem am_tJ_9_0 : T_c9_0.all (am_cJ 9) = true := by decide +kernel
theorem am_tJ_9_1 : T_c9_1.all (am_cJ 9) = true := by decide +kernel
theorem am_tJ_9_2 : T_c9_2.all (am_cJ 9) = true := by decide +kernel
theorem am_tJ_9_3 : T_c9_3.all (am_cJ 9) = true := by decide +kernel
theorem am_tJ_9 : T_c9.all (am_cJ 9) = true := by
  unfold T_c9
  rw [List.all_append, List.all_append, List.all_append]
  simp only [am_tJ_9_0, am_tJ_9_1, am_tJ_9_2, am_tJ_9_3, Bool.and_self]
theorem am_tJ_10_0 : T_c10_0.all (am_cJ 10) = true := by decide +kernel
theorem am_tJ_10_1 : T_c10_1.all (am_cJ 10) = true := by decide +kernel
theorem am_tJ_10_2 : T_c10_2.all (am_cJ 10) = true := by decide +kernel
theorem am_tJ_10 : T_c10.all (am_cJ 10) = true := by
  unfold T_c10
  rw [List.all_append, List.all_append]
  simp only [am_tJ_10_0, am_tJ_10_1, am_tJ_10_2, Bool.and_self]
theorem am_tJ_11_0 : T_c11_0.all (am_cJ 11) = true := by decide +kernel
theorem am_tJ_11_1 : T_c11_1.all (am_cJ 11) = true := by decide +kernel
theorem am_tJ_11_2 : T_c11_2.all (am_cJ 11) = true := by decide +kernel
theorem am_tJ_11_3 : T_c11_3.all (am_cJ 11) = true := by decide +kernel
theorem am_tJ_11 : T_c11.all (am_cJ 11) = true := by
  unfold T_c11
  rw [List.all_append, List.all_append, List.all_append]
  simp only [am_tJ_11_0, am_tJ_11_1, am_tJ_11_2, am_tJ_11_3, Bool.and_self]
theorem am_tJ_12_0 : T_c12_0.all (am_cJ 12) = true := by decide +kernel
theorem am_tJ_12 : T_c12.all (am_cJ 12) = true := am_tJ_12_0
theorem am_tJ_13_0 : T_c13_0.all (am_cJ 13) = true := by decide +kernel
theorem am_tJ_13 : T_c13.all (am_cJ 13) = true := am_tJ_13_0
theorem am_tJ_14_0 : T_c14_0.all (am_cJ 14) = true := by decide +kernel
theorem am_tJ_14 : T_c14.all (am_cJ 14) = true := am_tJ_14_0
theorem am_tJ_15_0 : T_c15_0.all (am_cJ 15) = true := by decide +kernel
theorem am_tJ_15 : T_c15.all (am_cJ 15) = true := am_tJ_15_0
theorem am_tJ : (List.range T_callL.length).all (fun o => (T_callL.getD o []).all (am_cJ o)) = true := by
  refine List.all_eq_true.mpr fun o ho => ?_
  have ho : o < 16 := List.mem_range.mp ho
  match o, ho with
  | 0, _ => exact am_tJ_0
  | 1, _ => exact am_tJ_1
  | 2, _ => exact am_tJ_2
  | 3, _ => exact am_tJ_3
  | 4, _ => exact am_tJ_4
  | 5, _ => exact am_tJ_5
  | 6, _ => exact am_tJ_6
  | 7, _ => exact am_tJ_7
  | 8, _ => exact am_tJ_8
  | 9, _ => exact am_tJ_9
  | 10, _ => exact am_tJ_10
  | 11, _ => exact am_tJ_11
  | 12, _ => exact am_tJ_12
  | 13, _ => exact am_tJ_13
  | 14, _ => exact am_tJ_14
  | 15, _ => exact am_tJ_15
  | n + 16, h => omega
