theorem s_ok_365_8 : s_cki s_sm s_I_365 s_K_365_8 = true := by decide +kernel
theorem s_ok_365_9 : s_cki s_sm s_I_365 s_K_365_9 = true := by decide +kernel
theorem s_ok_365_10 : s_cki s_sm s_I_365 s_K_365_10 = true := by decide +kernel
theorem s_ok_365_11 : s_cki s_sm s_I_365 s_K_365_11 = true := by decide +kernel
