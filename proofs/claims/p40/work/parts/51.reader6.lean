/-! the reader reads an item -/
def QI (r l : Nat) (X : RX) (Y : Int) (I : MI) (C : CF) (P : MP) (L : ML) : Int → MI → MP → ML → Prop := fun v I1 P1 L1 => v = (if X.1 = true then 1 else 0) ∧ I1 r 2 = I r 2 ∧ I1 r 3 = (X.2.1 : Int) ∧ I1 r 4 = (X.2.2.1 : Int) ∧ rdF I1 (l + 10) = X.2.2.2.1 ∧ rdB I1 (l + 1) = X.2.2.2.2.1 ∧ I1 (r + 2) = X.2.2.2.2.2 ∧ (∀ x, x ≠ r → x ≠ r + 2 → (x ≤ l ∨ l + 20 ≤ x ∨ x = l + 9) → I1 x = I x) ∧ outP P P1 (l + 10) ∧ WayL C P1 (l + 10) X.2.2.2.1 ∧ FI X.2.2.2.1 Y ∧ BI X.2.2.2.2.1 ∧ (∀ j, j < 3 → iR (X.2.2.2.2.2 j)) ∧ L = L1
theorem nums_in : ∀ j : Fin 5, 0 ≤ atT numsT j.val ∧ atT numsT j.val ≤ 3 := by decide +kernel
theorem rdF_eqr {I I1 : MI} {a : Nat} (h : ∀ x, (a ≤ x ∧ x < a + 10) → I1 x = I x) : rdF I1 a = rdF I a := by
  funext k
  simp only [rdF]
  rw [h a (by omega)]
  by_cases h7 : k < 7
  · rw [if_pos h7, if_pos h7]
  rw [if_neg h7, if_neg h7]
  by_cases h31 : k < 31
  · rw [if_pos h31, if_pos h31, h _ (by omega)]
  rw [if_neg h31, if_neg h31]
theorem rdB_eqr {I I1 : MI} {b : Nat} (h : ∀ x, (b ≤ x ∧ x < b + 8) → I1 x = I x) : rdB I1 b = rdB I b := by
  funext k
  simp only [rdB_def]
  rw [h b (by omega), h (b + 7) (by omega), h (b + 1 + (k - 34) % 3) (by omega), h (b + 4 + (k - 60) % 3) (by omega)]
theorem fb1 {it : Int} {fb : Bool} (h : it = 0) (h2 : (1 : Int) = if fb = true then 1 else 0) : decide (it = 0) = fb := by cases fb <;> simp_all
theorem fb0 {it : Int} {fb : Bool} (h : ¬ it = 0) (h2 : (0 : Int) = if fb = true then 1 else 0) : decide (it = 0) = fb := by
  cases fb with
  | false => exact decide_eq_false h
  | true => exact absurd h2 (by decide)
theorem fb1n {it : Int} {fb : Bool} (h : it = 0) (h2 : ¬ (1 : Int) = if fb = true then 1 else 0) : decide (it = 0) ≠ fb := by cases fb <;> simp_all
theorem fb0n {it : Int} {fb : Bool} (h : ¬ it = 0) (h2 : ¬ (0 : Int) = if fb = true then 1 else 0) : decide (it = 0) ≠ fb := by cases fb <;> simp_all

