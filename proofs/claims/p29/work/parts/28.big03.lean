theorem s_ok_365_12 : s_cki s_sm s_I_365 s_K_365_12 = true := by decide +kernel
theorem s_ok_365_13 : s_cki s_sm s_I_365 s_K_365_13 = true := by decide +kernel
theorem s_ok_365_14 : s_cki s_sm s_I_365 s_K_365_14 = true := by decide +kernel
theorem s_ok_365_15 : s_cki s_sm s_I_365 s_K_365_15 = true := by decide +kernel
