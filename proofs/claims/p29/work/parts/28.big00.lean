theorem s_ok_365_0 : s_cki s_sm s_I_365 s_K_365_0 = true := by decide +kernel
theorem s_ok_365_1 : s_cki s_sm s_I_365 s_K_365_1 = true := by decide +kernel
theorem s_ok_365_2 : s_cki s_sm s_I_365 s_K_365_2 = true := by decide +kernel
theorem s_ok_365_3 : s_cki s_sm s_I_365 s_K_365_3 = true := by decide +kernel
