/-! the letter that is told on -/
theorem fm_tab : ∀ i : Fin 111, -64 ≤ b_xor ((i.val : Int) - 40) 26 ∧ b_xor ((i.val : Int) - 40) 26 ≤ 127 ∧ (0 ≤ b_xor ((i.val : Int) - 40) 26 ↔ 40 ≤ i.val) ∧ -25 ≤ ((i.val : Int) - 40).tmod 26 ∧ ((i.val : Int) - 40).tmod 26 ≤ 25 ∧ (40 ≤ i.val → ((i.val : Int) - 40).tmod 26 = ((i.val : Int) - 40) % 26) ∧ (i.val < 40 → ((i.val : Int) - 40).tmod 26 = 0 → ((i.val : Int) - 40) % 26 = 0) ∧ (i.val < 40 → ((i.val : Int) - 40).tmod 26 ≠ 0 → ((i.val : Int) - 40) % 26 = ((i.val : Int) - 40).tmod 26 + 26) := by decide +kernel

