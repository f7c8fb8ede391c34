theorem law_pure (L : Nat) (xs : Nat → Int32) (hL : L ≤ 3072) : ∃ σ' : hf_S, f_L_law (hs_σ L xs) = some (1, σ') := by
  sorry
