theorem am_tM_0 : T_m_0.all am_cM = true := by decide +kernel
theorem am_tM_1 : T_m_1.all am_cM = true := by decide +kernel
theorem am_tM_2 : T_m_2.all am_cM = true := by decide +kernel
theorem am_tM_3 : T_m_3.all am_cM = true := by decide +kernel
theorem am_tM_4 : T_m_4.all am_cM = true := by decide +kernel
theorem am_tM_5 : T_m_5.all am_cM = true := by decide +kernel
theorem am_tM_6 : T_m_6.all am_cM = true := by decide +kernel
theorem am_tM_7 : T_m_7.all am_cM = true := by decide +kernel
theorem am_tM_8 : T_m_8.all am_cM = true := by decide +kernel
theorem am_tM_9 : T_m_9.all am_cM = true := by decide +kernel
theorem am_tM_10 : T_m_10.all am_cM = true := by decide +kernel
theorem am_tM_11 : T_m_11.all am_cM = true := by decide +kernel
theorem am_tM_12 : T_m_12.all am_cM = true := by decide +kernel
theorem am_tM_13 : T_m_13.all am_cM = true := by decide +kernel
theorem am_tM_14 : T_m_14.all am_cM = true := by decide +kernel
theorem am_tM_15 : T_m_15.all am_cM = true := by decide +kernel
theorem am_tM_16 : T_m_16.all am_cM = true := by decide +kernel
theorem am_tM_17 : T_m_17.all am_cM = true := by decide +kernel
theorem am_tM_18 : T_m_18.all am_cM = true := by decide +kernel
theorem am_tM_19 : T_m_19.all am_cM = true := by decide +kernel
theorem am_tM : T_m.all am_cM = true := by
  unfold T_m
  rw [List.all_append, List.all_append, List.all_append, List.all_append, List.all_append, List.all_append, List.all_append, List.all_append, List.all_append, List.all_append, List.all_append, List.all_append, List.all_append, List.all_append, List.all_append, List.all_append, List.all_append, List.all_append, List.all_append]
  simp only [am_tM_0, am_tM_1, am_tM_2, am_tM_3, am_tM_4, am_tM_5, am_tM_6, am_tM_7, am_tM_8, am_tM_9, am_tM_10, am_tM_11, am_tM_12, am_tM_13, am_tM_14, am_tM_15, am_tM_16, am_tM_17, am_tM_18, am_tM_19, Bool.and_self]
