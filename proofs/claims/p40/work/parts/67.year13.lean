/-! meant -/
theorem apR_congr (B : Nat → Int) (v : Nat) {R R2 : Nat → Int} (h : ∀ k, k < 6 → R k = R2 k) : ∀ n, n ≤ 6 → apR B v R n = apR B v R2 n := by
  intro n
  induction n with
  | zero => intro _; rfl
  | succ n ih => intro hn; unfold apR; rw [ih (by omega), h n (by omega)]
theorem nwF_congr (B : Nat → Int) {R R2 : Nat → Int} (h : ∀ k, k < 6 → R k = R2 k) : ∀ w, nwF B R w = nwF B R2 w := by
  intro w
  induction w with
  | zero => rfl
  | succ w ih => unfold nwF; rw [ih, apR_congr B w h 6 (Nat.le_refl 6)]
def meantS (S : YS) (R : Nat → Int) : Int × YS := if letN R 6 = true then ((nwF S.1.2.1 R (S.1.2.1 90).toNat).1, S) else (-2, yB S)

