theorem s_ok_330_0 : s_cki s_sm s_I_330 s_K_330_0 = true := by decide +kernel
theorem s_ok_330_1 : s_cki s_sm s_I_330 s_K_330_1 = true := by decide +kernel
theorem s_ok_330_2 : s_cki s_sm s_I_330 s_K_330_2 = true := by decide +kernel
theorem s_ok_330_3 : s_cki s_sm s_I_330 s_K_330_3 = true := by decide +kernel
