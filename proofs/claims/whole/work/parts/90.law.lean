/-- what is left of the claim: the law's path on the abstract machine -/
def LawRuns : Prop := ∀ (L : Nat) (xs : Nat → Int), L ≤ 2048 → (∀ k, r32 (xs k)) → ∃ d n h', d ≤ 600 ∧ jPa (jE d) (jcode 202) (mT 202).2.2.2.1 (some (jI 1)) h' n 0 (jent 4 [jP 2]) [] (hI L xs) ∧ jx h' ≤ 600032 ∧ ju h' ≤ 7302249
theorem law_runs : LawRuns := sorry
