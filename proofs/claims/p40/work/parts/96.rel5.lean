/-! the payments: the two tables agree on sets whose sum is nought -/
section PAY2
variable {net : Nat → Int} {z : Nat}
theorem sumS_0 : sumS net 0 = 0 := by unfold sumS; simp
theorem sub_b {s p : Nat} (h : p &&& s = p) (i : Nat) (x : Int) : (if (s ^^^ p).testBit i = true then x else 0) = (if s.testBit i = true then x else 0) - (if p.testBit i = true then x else 0) := by
  have c : p.testBit i = (p.testBit i && s.testBit i) := by rw [← Nat.testBit_and, h]
  rw [Nat.testBit_xor]
  revert c
  cases s.testBit i <;> cases p.testBit i <;> simp
theorem sumS_xor {s p : Nat} (h : p &&& s = p) : sumS net (s ^^^ p) = sumS net s - sumS net p := by
  unfold sumS
  rw [sub_b h 0, sub_b h 1, sub_b h 2, sub_b h 3, sub_b h 4, sub_b h 5]
  omega
end PAY2


