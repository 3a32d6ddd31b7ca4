theorem q_ok_8 : ∀ k, k < 12 → (q_ckm (96 + k) && q_ckw (96 + k)) = true := by decide +kernel
theorem q_ok_9 : ∀ k, k < 12 → (q_ckm (108 + k) && q_ckw (108 + k)) = true := by decide +kernel
theorem q_ok_10 : ∀ k, k < 12 → (q_ckm (120 + k) && q_ckw (120 + k)) = true := by decide +kernel
theorem q_ok_11 : ∀ k, k < 12 → (q_ckm (132 + k) && q_ckw (132 + k)) = true := by decide +kernel
theorem q_ok_12 : ∀ k, k < 12 → (q_ckm (144 + k) && q_ckw (144 + k)) = true := by decide +kernel
theorem q_ok_13 : ∀ k, k < 12 → (q_ckm (156 + k) && q_ckw (156 + k)) = true := by decide +kernel
theorem q_ok_14 : ∀ k, k < 12 → (q_ckm (168 + k) && q_ckw (168 + k)) = true := by decide +kernel
theorem q_ok_15 : ∀ k, k < 12 → (q_ckm (180 + k) && q_ckw (180 + k)) = true := by decide +kernel
theorem q_ok_16 : ∀ k, k < 2 → (q_ckm (192 + k) && q_ckw (192 + k)) = true := by decide +kernel
theorem q_facts (k : Nat) (hk : k < q_nm) : (q_ckm k && q_ckw k) = true := by
  have hk : k < 194 := hk
  rcases Nat.lt_or_ge k 12 with h0 | h0
  · have q := q_ok_0 (k - 0) (by omega)
    rw [show 0 + (k - 0) = k by omega] at q
    exact q
  rcases Nat.lt_or_ge k 24 with h1 | h1
  · have q := q_ok_1 (k - 12) (by omega)
    rw [show 12 + (k - 12) = k by omega] at q
    exact q
  rcases Nat.lt_or_ge k 36 with h2 | h2
  · have q := q_ok_2 (k - 24) (by omega)
    rw [show 24 + (k - 24) = k by omega] at q
    exact q
  rcases Nat.lt_or_ge k 48 with h3 | h3
  · have q := q_ok_3 (k - 36) (by omega)
    rw [show 36 + (k - 36) = k by omega] at q
    exact q
  rcases Nat.lt_or_ge k 60 with h4 | h4
  · have q := q_ok_4 (k - 48) (by omega)
    rw [show 48 + (k - 48) = k by omega] at q
    exact q
  rcases Nat.lt_or_ge k 72 with h5 | h5
  · have q := q_ok_5 (k - 60) (by omega)
    rw [show 60 + (k - 60) = k by omega] at q
    exact q
  rcases Nat.lt_or_ge k 84 with h6 | h6
  · have q := q_ok_6 (k - 72) (by omega)
    rw [show 72 + (k - 72) = k by omega] at q
    exact q
  rcases Nat.lt_or_ge k 96 with h7 | h7
  · have q := q_ok_7 (k - 84) (by omega)
    rw [show 84 + (k - 84) = k by omega] at q
    exact q
  rcases Nat.lt_or_ge k 108 with h8 | h8
  · have q := q_ok_8 (k - 96) (by omega)
    rw [show 96 + (k - 96) = k by omega] at q
    exact q
  rcases Nat.lt_or_ge k 120 with h9 | h9
  · have q := q_ok_9 (k - 108) (by omega)
    rw [show 108 + (k - 108) = k by omega] at q
    exact q
  rcases Nat.lt_or_ge k 132 with h10 | h10
  · have q := q_ok_10 (k - 120) (by omega)
    rw [show 120 + (k - 120) = k by omega] at q
    exact q
  rcases Nat.lt_or_ge k 144 with h11 | h11
  · have q := q_ok_11 (k - 132) (by omega)
    rw [show 132 + (k - 132) = k by omega] at q
    exact q
  rcases Nat.lt_or_ge k 156 with h12 | h12
  · have q := q_ok_12 (k - 144) (by omega)
    rw [show 144 + (k - 144) = k by omega] at q
    exact q
  rcases Nat.lt_or_ge k 168 with h13 | h13
  · have q := q_ok_13 (k - 156) (by omega)
    rw [show 156 + (k - 156) = k by omega] at q
    exact q
  rcases Nat.lt_or_ge k 180 with h14 | h14
  · have q := q_ok_14 (k - 168) (by omega)
    rw [show 168 + (k - 168) = k by omega] at q
    exact q
  rcases Nat.lt_or_ge k 192 with h15 | h15
  · have q := q_ok_15 (k - 180) (by omega)
    rw [show 180 + (k - 180) = k by omega] at q
    exact q
  rcases Nat.lt_or_ge k 194 with h16 | h16
  · have q := q_ok_16 (k - 192) (by omega)
    rw [show 192 + (k - 192) = k by omega] at q
    exact q
  omega
