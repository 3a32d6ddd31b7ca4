theorem s_ok_330_8 : s_cki s_sm s_I_330 s_K_330_8 = true := by decide +kernel
theorem s_ok_330_9 : s_cki s_sm s_I_330 s_K_330_9 = true := by decide +kernel
theorem s_ok_330_10 : s_cki s_sm s_I_330 s_K_330_10 = true := by decide +kernel
theorem s_ok_330_11 : s_cki s_sm s_I_330 s_K_330_11 = true := by decide +kernel
