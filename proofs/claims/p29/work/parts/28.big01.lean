theorem s_ok_365_4 : s_cki s_sm s_I_365 s_K_365_4 = true := by decide +kernel
theorem s_ok_365_5 : s_cki s_sm s_I_365 s_K_365_5 = true := by decide +kernel
theorem s_ok_365_6 : s_cki s_sm s_I_365 s_K_365_6 = true := by decide +kernel
theorem s_ok_365_7 : s_cki s_sm s_I_365 s_K_365_7 = true := by decide +kernel
