theorem d_Jm_min_0 : decode c_Jm_min 0 = .ok (.lload_n 0, 1) := by decide +kernel
theorem d_Jm_min_1 : decode c_Jm_min 1 = .ok (.lload_n 2, 1) := by decide +kernel
theorem d_Jm_min_2 : decode c_Jm_min 2 = .ok (.lcmp, 1) := by decide +kernel
theorem d_Jm_min_3 : decode c_Jm_min 3 = .ok (.ifCond .gt 7, 3) := by decide +kernel
theorem d_Jm_min_6 : decode c_Jm_min 6 = .ok (.lload_n 0, 1) := by decide +kernel
theorem d_Jm_min_7 : decode c_Jm_min 7 = .ok (.goto 4, 3) := by decide +kernel
theorem d_Jm_min_10 : decode c_Jm_min 10 = .ok (.lload_n 2, 1) := by decide +kernel
theorem d_Jm_min_11 : decode c_Jm_min 11 = .ok (.lreturn, 1) := by decide +kernel
