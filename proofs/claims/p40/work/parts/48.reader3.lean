/-! an item: its word, its numbers, what it tells -/
theorem bt {b : Bool} (h : ¬ (if b = true then (1 : Int) else 0) = 0) : b = true := by cases b <;> simp_all
theorem bf {b : Bool} (h : (if b = true then (1 : Int) else 0) = 0) : ¬ b = true := by cases b <;> simp_all
def numsT : List Int := [1, 2, 3, 2, 3]
def leastT : List Int := [2, 0, 0, 0, 0, 0, 0, 1, 0, 0, 0, 0, 0, 0, 1]
def mostT : List Int := [70, 0, 0, 3, 9999, 0, 4, 20, 9, -1, 4, 0, -1, -1, 999]
def atT (l : List Int) (j : Nat) : Int := (l[j]?).getD 0
theorem least_in : ∀ j : Fin 15, 0 ≤ atT leastT j.val ∧ atT leastT j.val ≤ 2 := by decide +kernel
theorem most_in : ∀ j : Fin 15, -1 ≤ atT mostT j.val ∧ atT mostT j.val ≤ 9999 := by decide +kernel
def fitB (item i : Nat) (v t0 fam : Int) : Bool := if item = 4 ∧ i = 1 ∧ v = t0 then false else decide (atT leastT (3 * item + i) ≤ v ∧ v ≤ (if atT mostT (3 * item + i) = -1 then fam - 1 else atT mostT (3 * item + i)))

