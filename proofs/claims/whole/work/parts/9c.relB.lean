/-! bears: the two answers are one -/
theorem br_m (x a : Int) : (if x < a then x else a) = min a x := by
  by_cases h : x < a
  · rw [if_pos h]; omega
  · rw [if_neg h]; omega
theorem leastS_m (a x : Int) (h : 0 ≤ a) : leastS a x = min a x := by
  unfold leastS
  by_cases h2 : x < a
  · rw [if_pos (Or.inr h2)]; omega
  · rw [if_neg (by omega)]; omega
theorem leastS_n (x : Int) : leastS (-1) x = x := if_pos (Or.inl rfl)
theorem near_br (B : Nat → Int) {n : Nat} (hn : n ≤ 4) : (nearO B n = -1 ∧ brO B n n = 1000000) ∨ (nearO B n = brO B n n ∧ 0 ≤ nearO B n ∧ nearO B n ≤ 6) := by
  have b01 := apR_in B 0 (rowB B 1) 6
  have b02 := apR_in B 0 (rowB B 2) 6
  have b03 := apR_in B 0 (rowB B 3) 6
  have b12 := apR_in B 1 (rowB B 2) 6
  have b13 := apR_in B 1 (rowB B 3) 6
  have b23 := apR_in B 2 (rowB B 3) 6
  rcases (show n = 0 ∨ n = 1 ∨ n = 2 ∨ n = 3 ∨ n = 4 by omega) with rfl | rfl | rfl | rfl | rfl
  · exact Or.inl ⟨rfl, rfl⟩
  · exact Or.inl ⟨rfl, rfl⟩
  · refine Or.inr ?_
    simp only [nearO, nearI, brO, brI, Nat.reduceAdd, Nat.reduceSub, Nat.zero_add]
    generalize apR B 0 (rowB B 1) 6 = a01 at *
    simp only [leastS_n, br_m]
    omega
  · refine Or.inr ?_
    simp only [nearO, nearI, brO, brI, Nat.reduceAdd, Nat.reduceSub, Nat.zero_add]
    generalize apR B 0 (rowB B 1) 6 = a01 at *
    generalize apR B 0 (rowB B 2) 6 = a02 at *
    generalize apR B 1 (rowB B 2) 6 = a12 at *
    rw [leastS_n, leastS_m a01 a02 (by omega), leastS_m (min a01 a02) a12 (by omega)]
    simp only [br_m]
    omega
  · refine Or.inr ?_
    simp only [nearO, nearI, brO, brI, Nat.reduceAdd, Nat.reduceSub, Nat.zero_add]
    simp only [leastS_n, br_m]
    generalize apR B 0 (rowB B 1) 6 = a01 at *
    generalize apR B 0 (rowB B 2) 6 = a02 at *
    generalize apR B 1 (rowB B 2) 6 = a12 at *
    generalize apR B 0 (rowB B 3) 6 = a03 at *
    generalize apR B 1 (rowB B 3) 6 = a13 at *
    generalize apR B 2 (rowB B 3) 6 = a23 at *
    rw [leastS_m a01 a02 (by omega), leastS_m (min a01 a02) a12 (by omega), leastS_m _ a03 (by omega), leastS_m _ a13 (by omega), leastS_m _ a23 (by omega)]
    omega

