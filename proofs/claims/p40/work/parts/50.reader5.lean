/-! one item read -/
abbrev RX : Type := Bool × Nat × Nat × (Nat → Int) × (Nat → Int) × (Nat → Int)
def tokV (b : Nat → Int) (n a : Nat) : Int := numV b (tok b n a).1 ((tok b n a).2.1 - (tok b n a).1)
def argS (b : Nat → Int) (n item : Nat) (fam : Int) : Nat → Nat → Nat → (Nat → Int) → Bool × Nat × Nat × (Nat → Int)
  | 0, _, a, t => (true, 0, a, t)
  | k + 1, i, a, t => if (tok b n a).2.2 = 3 ∧ fitB item i (tokV b n a) (t 0) fam = true then argS b n item fam k (i + 1) (tok b n a).2.1 (up t i (tokV b n a)) else (false, (tok b n a).1, (tok b n a).2.1, t)
def endS (b : Nat → Int) (n : Nat) (item : Int) (A : Bool × Nat × Nat × (Nat → Int)) (F B : Nat → Int) : RX :=
  if A.1 = true then (if (tok b n A.2.2.1).2.2 = 1 then (true, (tok b n A.2.2.1).1, (tok b n A.2.2.1).2.1, (addS item A.2.2.2 F B).1, (addS item A.2.2.2 F B).2, A.2.2.2) else (false, (tok b n A.2.2.1).1, (tok b n A.2.2.1).2.1, F, B, A.2.2.2)) else (false, A.2.1, A.2.2.1, F, B, A.2.2.2)
theorem runB_all (q : Int → Bool) (b : Nat → Int) : ∀ d p j, p ≤ j → j < runB q b d p → q (b j) = true := by
  intro d
  induction d with
  | zero => intro p j h1 h2; simp only [runB] at h2; omega
  | succ d ih =>
    intro p j h1 h2
    unfold runB at h2
    by_cases hq : q (b p) = true
    · rw [if_pos hq] at h2
      by_cases hj : j = p
      · rw [hj]; exact hq
      · exact ih (p + 1) j (by omega) h2
    · rw [if_neg hq] at h2; omega
theorem numV_in {b : Nat → Int} {s : Nat} : ∀ k, (∀ j, j < k → 48 ≤ b (s + j) ∧ b (s + j) ≤ 57) → k ≤ 4 → 0 ≤ numV b s k ∧ numV b s k < 10 ^ k := by
  intro k
  induction k with
  | zero => intro _ _; simp [numV]
  | succ k ih =>
    intro h hk
    have h1 := ih (fun j hj => h j (by omega)) (by omega)
    have h2 := h k (by omega)
    unfold numV
    rw [Int.pow_succ]
    generalize (10 : Int) ^ k = p at *
    omega
theorem tok_num {b : Nat → Int} {n a : Nat} (h : (tok b n a).2.2 = 3) : 0 ≤ tokV b n a ∧ tokV b n a ≤ 9999 := by
  unfold tokV
  unfold tok at *
  split at h
  · simp at h
  split at h
  · simp at h
  split at h
  · simp at h
  split at h
  · next h1 h2 h3 h4 =>
    rw [if_neg h1, if_neg h2, if_neg h3, if_pos h4]
    simp only at h ⊢
    have h5 : runB isFig b (n - skp b (n - a) a) (skp b (n - a) a) - skp b (n - a) a ≤ 4 := by
      by_cases hz : runB isFig b (n - skp b (n - a) a) (skp b (n - a) a) - skp b (n - a) a ≤ 4
      · exact hz
      · rw [if_neg hz] at h; omega
    have h6 := numV_in (b := b) (s := skp b (n - a) a) (runB isFig b (n - skp b (n - a) a) (skp b (n - a) a) - skp b (n - a) a) (fun j hj => by
      have h7 := runB_all isFig b (n - skp b (n - a) a) (skp b (n - a) a) (skp b (n - a) a + j) (by omega) (by omega)
      unfold isFig at h7
      exact of_decide_eq_true h7) h5
    generalize runB isFig b (n - skp b (n - a) a) (skp b (n - a) a) - skp b (n - a) a = k at *
    have h8 : (10 : Int) ^ k ≤ 10000 := by
      rcases (show k = 0 ∨ k = 1 ∨ k = 2 ∨ k = 3 ∨ k = 4 by omega) with rfl | rfl | rfl | rfl | rfl <;> decide
    omega
  · simp at h
def inB (item : Nat) (fam : Int) (j : Nat) (v : Int) : Prop := atT leastT (3 * item + j) ≤ v ∧ v ≤ (if atT mostT (3 * item + j) = -1 then fam - 1 else atT mostT (3 * item + j))
theorem fit_in {item i : Nat} {v t0 fam : Int} (h : fitB item i v t0 fam = true) : inB item fam i v := by
  unfold fitB at h
  split at h
  · cases h
  · unfold inB; exact of_decide_eq_true h
theorem argS_ok (b : Nat → Int) (n item : Nat) (fam : Int) : ∀ k i a t, (argS b n item fam k i a t).1 = true → (∀ j, j < i → inB item fam j (t j)) → ∀ j, j < i + k → inB item fam j ((argS b n item fam k i a t).2.2.2 j) := by
  intro k
  induction k with
  | zero => intro i a t _ h j hj; exact h j (by omega)
  | succ k ih =>
    intro i a t h1 h2
    unfold argS at h1 ⊢
    by_cases hc : (tok b n a).2.2 = 3 ∧ fitB item i (tokV b n a) (t 0) fam = true
    · rw [if_pos hc] at h1 ⊢
      intro j hj
      refine ih (i + 1) _ _ h1 (fun j hj => ?_) j (by omega)
      by_cases hji : j = i
      · subst hji; rw [up_s]; exact fit_in hc.2
      · rw [up_n _ _ hji]; exact h2 j (by omega)
    · rw [if_neg hc] at h1; cases h1
theorem FI_beg {F : Nat → Int} {Y y : Int} (h : FI F Y) (hY : 0 ≤ Y) (hy : 2 ≤ y ∧ y ≤ 70) : FI (begF F y) Y := by
  obtain ⟨a0, a1, a2, a3, a4, a5, a6, a7⟩ := h
  refine ⟨hy, ⟨by show (0 : Int) ≤ 0; omega, hY⟩, by show (0 : Int) ≤ 0 ∧ (0 : Int) ≤ 9999; omega, by show (0 : Int) ≤ 0 ∧ (0 : Int) ≤ 9999; omega, by show (0 : Int) ≤ 0 ∧ (0 : Int) ≤ 9999; omega, by show (0 : Int) ≤ 0 ∧ (0 : Int) ≤ 9999; omega, by show (0 : Int) ≤ 0 ∧ (0 : Int) ≤ 6; omega, fun f hf => ?_⟩
  have h7 := a7 f hf
  have e : ∀ j, j < 4 → begF F y (7 + 4 * f + j) = F (7 + 4 * f + j) := fun j hj => by simp only [begF]; rw [if_neg (by omega), if_neg (by omega)]
  have e0 := e 0 (by omega)
  have e1 := e 1 (by omega)
  have e2 := e 2 (by omega)
  have e3 := e 3 (by omega)
  rw [show 7 + 4 * f + 0 = 7 + 4 * f by omega] at e0
  rw [show 7 + 4 * f + 1 = 8 + 4 * f by omega] at e1
  rw [show 7 + 4 * f + 2 = 9 + 4 * f by omega] at e2
  rw [show 7 + 4 * f + 3 = 10 + 4 * f by omega] at e3
  rw [e0, e1, e2, e3, show begF F y 6 = 0 from rfl]
  exact ⟨h7.1, h7.2.1, h7.2.2.1, h7.2.2.2.1, fun h => by omega⟩
theorem BI_debt {B : Nat → Int} {n : Nat} {x y z : Int} (h : BI B) (hn : n < 8) (hx : 0 ≤ x ∧ x ≤ 5) (hy : 0 ≤ y ∧ y ≤ 5) (hz : 0 ≤ z ∧ z ≤ 999) : BI (debtB B n x y z) := by
  obtain ⟨b0, b1, b2, b3, b4, b5, b6⟩ := h
  unfold debtB
  refine ⟨?_, ?_, ?_, ?_, fun d hd => ?_, fun r hr => ?_, fun i hi => ?_⟩
  · rw [up_n _ _ (by omega), up_n _ _ (by omega), up_n _ _ (by omega), up_n _ _ (by omega)]; exact b0
  · rw [up_s]; omega
  · rw [up_n _ _ (by omega), up_n _ _ (by omega), up_n _ _ (by omega), up_n _ _ (by omega)]; exact b2
  · rw [up_n _ _ (by omega), up_n _ _ (by omega), up_n _ _ (by omega), up_n _ _ (by omega)]; exact b3
  · have h4 := b4 d hd
    refine ⟨?_, ?_, ?_⟩
    · simp only [up_app]; (repeat' split) <;> omega
    · simp only [up_app]; (repeat' split) <;> omega
    · simp only [up_app]; (repeat' split) <;> omega
  · have h5 := b5 r hr
    rw [up_n _ _ (by omega), up_n _ _ (by omega), up_n _ _ (by omega), up_n _ _ (by omega), up_n _ _ (by omega), up_n _ _ (by omega), up_n _ _ (by omega), up_n _ _ (by omega), up_n _ _ (by omega), up_n _ _ (by omega), up_n _ _ (by omega), up_n _ _ (by omega)]; exact h5
  · have h6 := b6 i hi
    rw [up_n _ _ (by omega), up_n _ _ (by omega), up_n _ _ (by omega), up_n _ _ (by omega)]; exact h6
/-- what an item that stands leaves keeps the bounds -/
theorem addS_in {item : Nat} {t F B : Nat → Int} {Y : Int} (hit : item < 5) (hF : FI F Y) (hB : BI B) (hY : 0 ≤ Y) (h2 : ¬ ((item : Int) = 2 ∧ 6 ≤ F 6)) (h4 : ¬ ((item : Int) = 4 ∧ 8 ≤ B 33)) (ht : ∀ j, j < (atT numsT item).toNat → inB item (F 6) j (t j)) : okS (item : Int) t F B ∧ FI (addS (item : Int) t F B).1 Y ∧ BI (addS (item : Int) t F B).2 := by
  have hs := hF.2.2.2.2.2.2.1
  have hd := hB.2.1
  rcases (show item = 0 ∨ item = 1 ∨ item = 2 ∨ item = 3 ∨ item = 4 by omega) with rfl | rfl | rfl | rfl | rfl
  · have t0 : 2 ≤ t 0 ∧ t 0 ≤ 70 := ht 0 (by decide)
    exact ⟨⟨fun h => by omega, fun h => by omega, fun h => by omega, fun h => by omega⟩, FI_beg hF hY t0, hB⟩
  · have t0 : 0 ≤ t 0 ∧ t 0 ≤ 3 := ht 0 (by decide)
    have t1 : 0 ≤ t 1 ∧ t 1 ≤ 9999 := ht 1 (by decide)
    exact ⟨⟨fun _ => t0, fun h => by omega, fun h => by omega, fun h => by omega⟩, FI_st hF (by omega) t1.1 t1.2, hB⟩
  · have t0 : 0 ≤ t 0 ∧ t 0 ≤ 4 := ht 0 (by decide)
    have t1 : 1 ≤ t 1 ∧ t 1 ≤ 20 := ht 1 (by decide)
    have t2 : 0 ≤ t 2 ∧ t 2 ≤ 9 := ht 2 (by decide)
    exact ⟨⟨fun h => by omega, fun _ => ⟨t0.1, t0.2, by omega⟩, fun h => by omega, fun h => by omega⟩, FI_setl hF (by omega) t0 t1 t2, hB⟩
  · have t0 : 0 ≤ t 0 ∧ t 0 ≤ F 6 - 1 := ht 0 (by decide)
    have t1 : 0 ≤ t 1 ∧ t 1 ≤ 4 := ht 1 (by decide)
    exact ⟨⟨fun h => by omega, fun h => by omega, fun _ => by omega, fun h => by omega⟩, FI_job hF t1.1 t1.2, hB⟩
  · have t0 : 0 ≤ t 0 ∧ t 0 ≤ F 6 - 1 := ht 0 (by decide)
    have t1 : 0 ≤ t 1 ∧ t 1 ≤ F 6 - 1 := ht 1 (by decide)
    have t2 : 1 ≤ t 2 ∧ t 2 ≤ 999 := ht 2 (by decide)
    exact ⟨⟨fun h => by omega, fun h => by omega, fun h => by omega, fun _ => by omega⟩, hF, BI_debt hB (by omega) (by omega) (by omega) (by omega)⟩


