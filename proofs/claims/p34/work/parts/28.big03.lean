theorem s_ok_330_12 : s_cki s_sm s_I_330 s_K_330_12 = true := by decide +kernel
theorem s_ok_330_13 : s_cki s_sm s_I_330 s_K_330_13 = true := by decide +kernel
theorem s_ok_330_14 : s_cki s_sm s_I_330 s_K_330_14 = true := by decide +kernel
theorem s_ok_330_15 : s_cki s_sm s_I_330 s_K_330_15 = true := by decide +kernel
