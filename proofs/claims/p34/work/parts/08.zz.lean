theorem q_facts (k : Nat) (hk : k < q_nm) : (q_ckm k && q_ckw k) = true := sorry
