theorem s_ok_330_4 : s_cki s_sm s_I_330 s_K_330_4 = true := by decide +kernel
theorem s_ok_330_5 : s_cki s_sm s_I_330 s_K_330_5 = true := by decide +kernel
theorem s_ok_330_6 : s_cki s_sm s_I_330 s_K_330_6 = true := by decide +kernel
theorem s_ok_330_7 : s_cki s_sm s_I_330 s_K_330_7 = true := by decide +kernel
