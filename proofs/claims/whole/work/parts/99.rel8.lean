/-! the payments: the class's and the reference's answer -/
theorem sumN_z (s : Nat) : ∀ k, sumN (fun _ => 0) s k = 0 := by
  intro k
  induction k with
  | zero => rfl
  | succ k ih =>
    show sumN (fun _ => 0) s k + (if s.testBit k = true then 0 else 0) = 0
    rw [ih]; split <;> rfl
theorem sumN_i {net : Nat → Int} {s z : Nat} {a c x : Int} (hb : ∀ i, i < z → s.testBit i = true) : ∀ k, k ≤ z → sumN (fun f => net f + (if a = (f : Int) then x else 0) - (if c = (f : Int) then x else 0)) s k = sumN net s k + (if 0 ≤ a ∧ a < k then x else 0) - (if 0 ≤ c ∧ c < k then x else 0) := by
  intro k
  induction k with
  | zero =>
    intro _
    rw [if_neg (by omega), if_neg (by omega)]; rfl
  | succ k ih =>
    intro hk
    show sumN _ s k + (if s.testBit k = true then net k + (if a = (k : Int) then x else 0) - (if c = (k : Int) then x else 0) else 0) = sumN net s k + (if s.testBit k = true then net k else 0) + _ - _
    rw [ih (by omega), if_pos (hb k (by omega)), if_pos (hb k (by omega))]
    generalize sumN net s k = t
    by_cases ha : a = (k : Int)
    · by_cases hc : c = (k : Int)
      · rw [if_pos ha, if_pos hc, if_neg (by omega), if_neg (by omega), if_pos (by omega), if_pos (by omega)]; omega
      · rw [if_pos ha, if_neg hc, if_neg (show ¬ (0 ≤ a ∧ a < (k : Int)) by omega), if_pos (show 0 ≤ a ∧ a < ((k + 1 : Nat) : Int) by omega)]
        by_cases h2 : 0 ≤ c ∧ c < (k : Int)
        · rw [if_pos h2, if_pos (by omega)]; omega
        · rw [if_neg h2, if_neg (by omega)]; omega
    · by_cases hc : c = (k : Int)
      · rw [if_neg ha, if_pos hc, if_neg (show ¬ (0 ≤ c ∧ c < (k : Int)) by omega), if_pos (show 0 ≤ c ∧ c < ((k + 1 : Nat) : Int) by omega)]
        by_cases h2 : 0 ≤ a ∧ a < (k : Int)
        · rw [if_pos h2, if_pos (by omega)]; omega
        · rw [if_neg h2, if_neg (by omega)]; omega
      · rw [if_neg ha, if_neg hc]
        by_cases h2 : 0 ≤ a ∧ a < (k : Int)
        · by_cases h3 : 0 ≤ c ∧ c < (k : Int)
          · rw [if_pos h2, if_pos h3, if_pos (by omega), if_pos (by omega)]; omega
          · rw [if_pos h2, if_neg h3, if_pos (by omega), if_neg (by omega)]; omega
        · by_cases h3 : 0 ≤ c ∧ c < (k : Int)
          · rw [if_neg h2, if_pos h3, if_neg (by omega), if_pos (by omega)]; omega
          · rw [if_neg h2, if_neg h3, if_neg (by omega), if_neg (by omega)]; omega
theorem bal_sum {B : Nat → Int} {w : Int} {s z : Nat} (hb : ∀ i, i < z → s.testBit i = true) : ∀ d, (∀ c, c < d → (0 ≤ B (34 + 3 * c) ∧ B (34 + 3 * c) < z) ∧ (0 ≤ B (35 + 3 * c) ∧ B (35 + 3 * c) < z)) → sumN (fun f => balB B w (f : Int) d) s z = 0 := by
  intro d
  induction d with
  | zero => intro _; exact sumN_z s z
  | succ d ih =>
    intro h
    have hd := h d (by omega)
    have hs := sumN_i (net := fun f => balB B w (f : Int) d) (a := B (35 + 3 * d)) (c := B (34 + 3 * d)) (x := dueB B w d) hb z (Nat.le_refl z)
    show sumN (fun f => balB B w (f : Int) d + (if B (35 + 3 * d) = (f : Int) then dueB B w d else 0) - (if B (34 + 3 * d) = (f : Int) then dueB B w d else 0)) s z = 0
    rw [hs, ih (fun c hc => h c (by omega)), if_pos hd.2, if_pos hd.1]
    omega

