/-! THE PURE PART: the law, told as a pure function over the store, answers 1 within the room -/
theorem pure_ok : ∀ (L : Nat) (xs : Nat → Int32), L ≤ 3072 → ∃ τ, D_L_law 1 (lwS0 L xs) = some (1, τ) ∧ mC τ ≤ 601024 ∧ mZ τ ≤ 7293034 := fun L xs hL => law_of L xs hL
