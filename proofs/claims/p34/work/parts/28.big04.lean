theorem s_ok_330_16 : s_cki s_sm s_I_330 s_K_330_16 = true := by decide +kernel
