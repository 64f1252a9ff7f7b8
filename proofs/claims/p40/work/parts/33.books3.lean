/-! what the books tell -/
def apR (B : Nat → Int) (v : Nat) (R : Nat → Int) : Nat → Int
  | 0 => 0
  | i + 1 => apR B v R i + (if B (91 + (6 * v + i)) = R i then 0 else 1)
theorem apR_in (B : Nat → Int) (v : Nat) (R : Nat → Int) : ∀ n : Nat, 0 ≤ apR B v R n ∧ apR B v R n ≤ n := by
  intro n
  induction n with
  | zero => simp [apR]
  | succ n ih => unfold apR; split <;> omega
def rowB (B : Nat → Int) (w : Nat) : Nat → Int := fun i => B (91 + (6 * w + i))
def leastS (acc x : Int) : Int := if acc = -1 ∨ x < acc then x else acc
def nearI (B : Nat → Int) (w : Nat) (acc : Int) : Nat → Int
  | 0 => acc
  | v + 1 => leastS (nearI B w acc v) (apR B v (rowB B w) 6)
def nearO (B : Nat → Int) : Nat → Int
  | 0 => -1
  | w + 1 => nearI B w (nearO B w) w
theorem nearI_in (B : Nat → Int) (w : Nat) {acc : Int} (h : -1 ≤ acc ∧ acc ≤ 6) : ∀ v, -1 ≤ nearI B w acc v ∧ nearI B w acc v ≤ 6 := by
  intro v
  induction v with
  | zero => exact h
  | succ v ih => have h2 := apR_in B v (rowB B w) 6; unfold nearI leastS; split <;> omega
theorem nearO_in (B : Nat → Int) : ∀ w, -1 ≤ nearO B w ∧ nearO B w ≤ 6 := by
  intro w
  induction w with
  | zero => simp [nearO]
  | succ w ih => unfold nearO; exact nearI_in B w ih w
def nwF (B : Nat → Int) (R : Nat → Int) : Nat → Int × Int
  | 0 => (-1, 7)
  | w + 1 => if apR B w R 6 < (nwF B R w).2 then ((w : Int), apR B w R 6) else nwF B R w
theorem nwF_in (B : Nat → Int) (R : Nat → Int) : ∀ w : Nat, 0 ≤ (nwF B R w).2 ∧ (nwF B R w).2 ≤ 7 ∧ -1 ≤ (nwF B R w).1 ∧ (nwF B R w).1 < w := by
  intro w
  induction w with
  | zero => simp [nwF]
  | succ w ih =>
    have h := apR_in B w R 6
    unfold nwF
    split
    · refine ⟨by omega, by omega, by simp only []; omega, by simp only []; omega⟩
    · omega
def sumsF (B : Nat → Int) (h : Int) (a : Nat) : Nat → Int
  | 0 => h
  | n + 1 => 31 * sumsF B h a n + B (a + n)
theorem sumsF_3 (B : Nat → Int) (h : Int) (a n : Nat) : sumsF B h a (3 * (n + 1)) = 31 * (31 * (31 * sumsF B h a (3 * n) + B (a + 3 * n)) + B (a + 1 + 3 * n)) + B (a + 2 + 3 * n) := by
  rw [show 3 * (n + 1) = 3 * n + 1 + 1 + 1 by omega, sumsF, sumsF, sumsF, show a + (3 * n + 1 + 1) = a + 2 + 3 * n by omega, show a + (3 * n + 1) = a + 1 + 3 * n by omega]
def mixB (B : Nat → Int) (h : Int) : Int := sumsF B (sumsF B (sumsF B (31 * h + B 58) 34 (3 * (B 33).toNat)) 60 (3 * (B 59).toNat)) 91 (6 * (B 90).toNat)

