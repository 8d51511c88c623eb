/-! small rules for loops that count -/
theorem k_step {x NI : Int32} {N k n : Nat} (hN : NI = nI N) (hs : N < 2 ^ 31) (hk : x = nI k) (hk1 : k ≤ N) (hk2 : N < k + (n + 1)) (c : ¬ NI ≤ x) : ∃ k' : Nat, x + 1 = nI k' ∧ k' ≤ N ∧ N < k' + n := by
  subst hk; subst hN
  have h : k < N := by
    rcases Nat.lt_or_ge k N with q | q
    · exact q
    · exact absurd (nI_le q (by omega)) c
  exact ⟨k + 1, nI_1 k, by omega, by omega⟩
theorem k_lt {x NI : Int32} {N k : Nat} (hN : NI = nI N) (hk : x = nI k) (hk1 : k ≤ N) (hs : N < 2 ^ 31) (c : ¬ NI ≤ x) : k < N := by
  subst hk; subst hN
  rcases Nat.lt_or_ge k N with q | q
  · exact q
  · exact absurd (nI_le q (by omega)) c
