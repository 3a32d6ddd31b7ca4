theorem q_ok_0 : ∀ k, k < 12 → (q_ckm (0 + k) && q_ckw (0 + k)) = true := by decide +kernel
theorem q_ok_1 : ∀ k, k < 12 → (q_ckm (12 + k) && q_ckw (12 + k)) = true := by decide +kernel
theorem q_ok_2 : ∀ k, k < 12 → (q_ckm (24 + k) && q_ckw (24 + k)) = true := by decide +kernel
theorem q_ok_3 : ∀ k, k < 12 → (q_ckm (36 + k) && q_ckw (36 + k)) = true := by decide +kernel
theorem q_ok_4 : ∀ k, k < 12 → (q_ckm (48 + k) && q_ckw (48 + k)) = true := by decide +kernel
theorem q_ok_5 : ∀ k, k < 12 → (q_ckm (60 + k) && q_ckw (60 + k)) = true := by decide +kernel
theorem q_ok_6 : ∀ k, k < 12 → (q_ckm (72 + k) && q_ckw (72 + k)) = true := by decide +kernel
theorem q_ok_7 : ∀ k, k < 12 → (q_ckm (84 + k) && q_ckw (84 + k)) = true := by decide +kernel
