/-! the relation kept by single places and by a report -/
theorem trF_hi (X : Nat → Int) {k : Nat} (v : Int) (hk : 33 ≤ k) : trF (up X k v) = trF X := by
  have z : sizeF (up X k v) = sizeF X := by unfold sizeF; rw [up_n _ _ (by omega)]
  unfold trF
  rw [z]
  funext x
  unfold tr
  by_cases hx : (7 + 4 * sizeF X ≤ x ∧ x < 31) ∨ 33 ≤ x
  · rw [if_pos hx, if_pos hx]
  · rw [if_neg hx, if_neg hx, up_n _ _ (by omega)]
theorem up_eq {X B : Nat → Int} {k x : Nat} (v : Int) (h : X x = B x) : up X k v x = up B k v x := by
  rw [up_app, up_app, h]
theorem BE_set {X B : Nat → Int} (h : BE X B) (k : Nat) (v : Int) (h33 : k ≠ 33) (h59 : k ≠ 59) (h90 : k ≠ 90) : BE (up X k v) (up B k v) := by
  obtain ⟨a1, a2, a3, a4, a5, a6, a7⟩ := h
  have e33 : up B k v 33 = B 33 := up_n _ _ (fun q => h33 q.symm)
  have e59 : up B k v 59 = B 59 := up_n _ _ (fun q => h59 q.symm)
  have e90 : up B k v 90 = B 90 := up_n _ _ (fun q => h90 q.symm)
  refine ⟨up_eq v a1, up_eq v a2, up_eq v a3, up_eq v a4, fun i hi => ?_, fun i hi => ?_, fun i hi => ?_⟩
  · rw [e33] at hi; exact up_eq v (a5 i hi)
  · rw [e59] at hi; exact up_eq v (a6 i hi)
  · rw [e90] at hi; exact up_eq v (a7 i hi)
theorem BE_repo {X B : Nat → Int} (h : BE X B) (x y z : Int) (hB : 0 ≤ B 59 ∧ B 59 < 10) (h90 : B 90 ≤ 4) (h33 : B 33 ≤ 8) : BE (repoB X (X 59).toNat x y z) (repoB B (B 59).toNat x y z) := by
  obtain ⟨a1, a2, a3, a4, a5, a6, a7⟩ := h
  obtain ⟨d, hd⟩ : ∃ d, d = (B 59).toNat := ⟨_, rfl⟩
  rw [a3, ← hd]
  have w59 : repoB B d x y z 59 = d + 1 := up_s _ _ _
  have e : ∀ k, ¬ (60 ≤ k ∧ k ≤ 89) → k ≠ 59 → repoB B d x y z k = B k ∧ repoB X d x y z k = X k := fun k h1 h2 => by
    unfold repoB
    rw [up_n _ _ h2, up_n _ _ (by omega), up_n _ _ (by omega), up_n _ _ (by omega), up_n _ _ h2, up_n _ _ (by omega), up_n _ _ (by omega), up_n _ _ (by omega)]
    exact ⟨rfl, rfl⟩
  have e58 := e 58 (by omega) (by omega)
  have e33 := e 33 (by omega) (by omega)
  have e90 := e 90 (by omega) (by omega)
  refine ⟨?_, ?_, ?_, ?_, fun i hi => ?_, fun i hi => ?_, fun i hi => ?_⟩
  · rw [e33.1, e33.2]; exact a1
  · rw [e58.1, e58.2]; exact a2
  · rw [w59]; exact up_s _ _ _
  · rw [e90.1, e90.2]; exact a4
  · rw [e33.1] at hi
    have ee := e (34 + i) (by omega) (by omega)
    rw [ee.1, ee.2]; exact a5 i hi
  · rw [w59] at hi
    unfold repoB
    simp only [up_app]
    by_cases hi2 : i < 3 * d
    · rw [a6 i (by omega)]
    · have hc : i = 3 * d ∨ i = 3 * d + 1 ∨ i = 3 * d + 2 := by omega
      rcases hc with rfl | rfl | rfl
      · rw [if_neg (by omega), if_neg (by omega), if_neg (by omega), if_pos (by omega), if_neg (by omega), if_neg (by omega), if_neg (by omega), if_pos (by omega)]
      · rw [if_neg (by omega), if_neg (by omega), if_pos (by omega), if_neg (by omega), if_neg (by omega), if_pos (by omega)]
      · rw [if_neg (by omega), if_pos (by omega), if_neg (by omega), if_pos (by omega)]
  · rw [e90.1] at hi
    have ee := e (91 + i) (by omega) (by omega)
    rw [ee.1, ee.2]; exact a7 i hi

