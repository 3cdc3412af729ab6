theorem T_q30 : ∀ j, j < 1 → am_fI (231 + j) = true := by
  intro j hj
  rw [show j = 0 by omega]
  show T_i231.all (am_fR 231) = true
  unfold T_i231
  rw [List.all_append, List.all_append, List.all_append, List.all_append, List.all_append, List.all_append, List.all_append, List.all_append, List.all_append, List.all_append, List.all_append, List.all_append, List.all_append, List.all_append, List.all_append, List.all_append, List.all_append, List.all_append, List.all_append, List.all_append, List.all_append, List.all_append, List.all_append, List.all_append, List.all_append, List.all_append, List.all_append, List.all_append, List.all_append]
  simp only [T_q30_0, T_q30_1, T_q30_2, T_q30_3, T_q30_4, T_q30_5, T_q30_6, T_q30_7, T_q30_8, T_q30_9, T_q30_10, T_q30_11, T_q30_12, T_q30_13, T_q30_14, T_q30_15, T_q30_16, T_q30_17, T_q30_18, T_q30_19, T_q30_20, T_q30_21, T_q30_22, T_q30_23, T_q30_24, T_q30_25, T_q30_26, T_q30_27, T_q30_28, T_q30_29, Bool.and_self]
theorem am_tI : (List.range T_insL.length).all (fun j => (T_insL.getD j []).all (am_fR j)) = true := by
  refine List.all_eq_true.mpr fun j hj => ?_
  have hj : j < 237 := List.mem_range.mp hj
  show am_fI j = true
  by_cases h0 : j < 7
  · have := T_q0 (j - 0) (by omega)
    rwa [show 0 + (j - 0) = j by omega] at this
  by_cases h1 : j < 13
  · have := T_q1 (j - 7) (by omega)
    rwa [show 7 + (j - 7) = j by omega] at this
  by_cases h2 : j < 22
  · have := T_q2 (j - 13) (by omega)
    rwa [show 13 + (j - 13) = j by omega] at this
  by_cases h3 : j < 32
  · have := T_q3 (j - 22) (by omega)
    rwa [show 22 + (j - 22) = j by omega] at this
  by_cases h4 : j < 39
  · have := T_q4 (j - 32) (by omega)
    rwa [show 32 + (j - 32) = j by omega] at this
  by_cases h5 : j < 48
  · have := T_q5 (j - 39) (by omega)
    rwa [show 39 + (j - 39) = j by omega] at this
  by_cases h6 : j < 57
  · have := T_q6 (j - 48) (by omega)
    rwa [show 48 + (j - 48) = j by omega] at this
  by_cases h7 : j < 64
  · have := T_q7 (j - 57) (by omega)
    rwa [show 57 + (j - 57) = j by omega] at this
  by_cases h8 : j < 74
  · have := T_q8 (j - 64) (by omega)
    rwa [show 64 + (j - 64) = j by omega] at this
  by_cases h9 : j < 81
  · have := T_q9 (j - 74) (by omega)
    rwa [show 74 + (j - 74) = j by omega] at this
  by_cases h10 : j < 89
  · have := T_q10 (j - 81) (by omega)
    rwa [show 81 + (j - 81) = j by omega] at this
  by_cases h11 : j < 98
  · have := T_q11 (j - 89) (by omega)
    rwa [show 89 + (j - 89) = j by omega] at this
  by_cases h12 : j < 106
  · have := T_q12 (j - 98) (by omega)
    rwa [show 98 + (j - 98) = j by omega] at this
  by_cases h13 : j < 118
  · have := T_q13 (j - 106) (by omega)
    rwa [show 106 + (j - 106) = j by omega] at this
  by_cases h14 : j < 136
  · have := T_q14 (j - 118) (by omega)
    rwa [show 118 + (j - 118) = j by omega] at this
  by_cases h15 : j < 148
  · have := T_q15 (j - 136) (by omega)
    rwa [show 136 + (j - 136) = j by omega] at this
  by_cases h16 : j < 153
  · have := T_q16 (j - 148) (by omega)
    rwa [show 148 + (j - 148) = j by omega] at this
  by_cases h17 : j < 158
  · have := T_q17 (j - 153) (by omega)
    rwa [show 153 + (j - 153) = j by omega] at this
  by_cases h18 : j < 168
  · have := T_q18 (j - 158) (by omega)
    rwa [show 158 + (j - 158) = j by omega] at this
  by_cases h19 : j < 173
  · have := T_q19 (j - 168) (by omega)
    rwa [show 168 + (j - 168) = j by omega] at this
  by_cases h20 : j < 179
  · have := T_q20 (j - 173) (by omega)
    rwa [show 173 + (j - 173) = j by omega] at this
  by_cases h21 : j < 186
  · have := T_q21 (j - 179) (by omega)
    rwa [show 179 + (j - 179) = j by omega] at this
  by_cases h22 : j < 193
  · have := T_q22 (j - 186) (by omega)
    rwa [show 186 + (j - 186) = j by omega] at this
  by_cases h23 : j < 199
  · have := T_q23 (j - 193) (by omega)
    rwa [show 193 + (j - 193) = j by omega] at this
  by_cases h24 : j < 206
  · have := T_q24 (j - 199) (by omega)
    rwa [show 199 + (j - 199) = j by omega] at this
  by_cases h25 : j < 215
  · have := T_q25 (j - 206) (by omega)
    rwa [show 206 + (j - 206) = j by omega] at this
  by_cases h26 : j < 219
  · have := T_q26 (j - 215) (by omega)
    rwa [show 215 + (j - 215) = j by omega] at this
  by_cases h27 : j < 222
  · have := T_q27 (j - 219) (by omega)
    rwa [show 219 + (j - 219) = j by omega] at this
  by_cases h28 : j < 230
  · have := T_q28 (j - 222) (by omega)
    rwa [show 222 + (j - 222) = j by omega] at this
  by_cases h29 : j < 231
  · have := T_q29 (j - 230) (by omega)
    rwa [show 230 + (j - 230) = j by omega] at this
  by_cases h30 : j < 232
  · have := T_q30 (j - 231) (by omega)
    rwa [show 231 + (j - 231) = j by omega] at this
  · have := T_q31 (j - 232) (by omega)
    rwa [show 232 + (j - 232) = j by omega] at this
theorem am_nms : ∀ ci, ci < vwCl.length → ∀ a, a < am_nf ci → ∀ b, b < am_nf ci → a ≠ b → ((am_C ci).2.1 a).2.1 ≠ ((am_C ci).2.1 b).2.1 := by
  intro ci h
  have h : ci < 11 := h
  match ci, h with
  | 0, _ => exact nmX0
  | 1, _ => exact nmX1
  | 2, _ => exact nmX2
  | 3, _ => exact nmX3
  | 4, _ => exact nmX4
  | 5, _ => exact nmX5
  | 6, _ => exact nmX6
  | 7, _ => exact nmX7
  | 8, _ => exact nmX8
  | 9, _ => exact nmX9
  | 10, _ => exact nmX10
  | n + 11, h => omega
