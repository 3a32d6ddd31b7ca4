theorem s_ok_365_16 : s_cki s_sm s_I_365 s_K_365_16 = true := by decide +kernel
