/-! the class's state and the reference's: readings -/
def BE (X B : Nat → Int) : Prop := X 33 = B 33 ∧ X 58 = B 58 ∧ X 59 = B 59 ∧ X 90 = B 90 ∧ (∀ i, i < 3 * (B 33).toNat → X (34 + i) = B (34 + i)) ∧ (∀ i, i < 3 * (B 59).toNat → X (60 + i) = B (60 + i)) ∧ (∀ i, i < 6 * (B 90).toNat → X (91 + i) = B (91 + i))
def DE (F B : Nat → Int) : Prop := (∀ d, d < (B 33).toNat → B (34 + 3 * d) < F 6 ∧ B (35 + 3 * d) < F 6) ∧ (∀ r, r < (B 59).toNat → B (61 + 3 * r) < F 6)
def XE (X F B : Nat → Int) : Prop := trF X = trF F ∧ BE X B ∧ DE F B
theorem XE_6 {X F B : Nat → Int} (h : XE X F B) : X 6 = F 6 := by
  have := congrFun h.1 6
  unfold trF at this
  rw [tr_a X (by omega), tr_a F (by omega)] at this
  exact this
theorem XE_sz {X F B : Nat → Int} (h : XE X F B) : sizeF X = sizeF F := by unfold sizeF; rw [XE_6 h]
theorem fit_0 (item : Nat) (v t0 t1 fam : Int) : fitB item 0 v t0 fam = fitB item 0 v t1 fam := by
  have h0 : ∀ t : Int, ¬ (item = 4 ∧ (0 : Nat) = 1 ∧ v = t) := fun t q => absurd q.2.1 (by decide)
  unfold fitB
  rw [if_neg (h0 t0), if_neg (h0 t1)]
theorem argS_ag (b : Nat → Int) (n item : Nat) (fam : Int) : ∀ k i a t s, (∀ j, j < i → t j = s j) → (argS b n item fam k i a t).1 = (argS b n item fam k i a s).1 ∧ (argS b n item fam k i a t).2.1 = (argS b n item fam k i a s).2.1 ∧ (argS b n item fam k i a t).2.2.1 = (argS b n item fam k i a s).2.2.1 ∧ ((argS b n item fam k i a t).1 = true → ∀ j, j < i + k → (argS b n item fam k i a t).2.2.2 j = (argS b n item fam k i a s).2.2.2 j) := by
  intro k
  induction k with
  | zero => intro i a t s h; exact ⟨rfl, rfl, rfl, fun _ j hj => h j (by omega)⟩
  | succ k ih =>
    intro i a t s h
    rw [arg_st, arg_st]
    have hf : fitB item i (tokV b n a) (t 0) fam = fitB item i (tokV b n a) (s 0) fam := by
      by_cases hi : i = 0
      · subst hi; exact fit_0 _ _ _ _ _
      · rw [h 0 (by omega)]
    rw [hf]
    by_cases hc : (tok b n a).2.2 = 3 ∧ fitB item i (tokV b n a) (s 0) fam = true
    · rw [if_pos hc, if_pos hc]
      have hn := ih (i + 1) (tok b n a).2.1 (up t i (tokV b n a)) (up s i (tokV b n a)) (fun j hj => by
        rw [up_app, up_app]
        by_cases hji : j = i
        · rw [if_pos hji, if_pos hji]
        · rw [if_neg hji, if_neg hji]; exact h j (by omega))
      exact ⟨hn.1, hn.2.1, hn.2.2.1, fun hh j hj => hn.2.2.2 hh j (by omega)⟩
    · rw [if_neg hc, if_neg hc]
      exact ⟨rfl, rfl, rfl, fun hh => by cases hh⟩
theorem trF_setl (F : Nat → Int) (k m y : Int) (h6 : 0 ≤ F 6 ∧ F 6 < 6) : trF (setlF F (sizeF F) k m y) = setlF (trF F) (sizeF F) k m y := by
  obtain ⟨n, hn⟩ : ∃ n, n = sizeF F := ⟨_, rfl⟩
  have hnn : n = (F 6).toNat := hn
  have h1 : setlF F n k m y 6 = F 6 + 1 := by
    unfold setlF
    rw [up_n _ _ (by omega), up_n _ _ (by omega), up_n _ _ (by omega), up_n _ _ (by omega), up_s]
  have h2 : sizeF (setlF F n k m y) = n + 1 := by unfold sizeF; rw [h1]; omega
  have e6 : trF F 6 = F 6 := by unfold trF; exact tr_a F (by omega)
  rw [← hn]
  unfold trF
  rw [h2, ← hn]
  have e6' : tr n F 6 = F 6 := tr_a F (by omega)
  funext x
  by_cases hd : (7 + 4 * (n + 1) ≤ x ∧ x < 31) ∨ 33 ≤ x
  · rw [tr_d _ hd]
    unfold setlF
    rw [up_n _ _ (by omega), up_n _ _ (by omega), up_n _ _ (by omega), up_n _ _ (by omega), up_n _ _ (by omega), tr_d F (by omega)]
  · rw [tr_a _ hd]
    unfold setlF
    simp only [up_app, e6']
    by_cases hq : (7 + 4 * n ≤ x ∧ x < 31) ∨ 33 ≤ x
    · rw [tr_d F hq]
      have hx : x = 7 + 4 * n ∨ x = 8 + 4 * n ∨ x = 9 + 4 * n ∨ x = 10 + 4 * n := by omega
      rcases hx with rfl | rfl | rfl | rfl
      · rw [if_neg (by omega), if_neg (by omega), if_neg (by omega), if_pos rfl, if_neg (by omega), if_neg (by omega), if_neg (by omega), if_pos rfl]
      · rw [if_neg (by omega), if_neg (by omega), if_pos rfl, if_neg (by omega), if_neg (by omega), if_pos rfl]
      · rw [if_neg (by omega), if_pos rfl, if_neg (by omega), if_pos rfl]
      · rw [if_pos rfl, if_pos rfl]
    · rw [tr_a F hq]
theorem XE_beg (X F B : Nat → Int) (y : Int) (h33 : B 33 = 0) (h58 : B 58 = 0) (h59 : B 59 = 0) (h90 : B 90 = 0) : XE (begR X y) (begF F y) B := by
  have s1 : sizeF (begR X y) = 0 := rfl
  have s2 : sizeF (begF F y) = 0 := rfl
  refine ⟨?_, ⟨h33.symm, h58.symm, h59.symm, h90.symm, fun i hi => ?_, fun i hi => ?_, fun i hi => ?_⟩, fun d hd => ?_, fun r hr => ?_⟩
  · unfold trF
    rw [s1, s2]
    funext k
    unfold tr
    by_cases hk : (7 + 4 * 0 ≤ k ∧ k < 31) ∨ 33 ≤ k
    · rw [if_pos hk, if_pos hk]
    · rw [if_neg hk, if_neg hk]
      unfold begR begF
      by_cases h0 : k = 0
      · rw [if_pos h0, if_pos h0]
      · rw [if_neg h0, if_neg h0, if_pos (by omega), if_pos (by omega)]
  · rw [h33] at hi; exact absurd hi (by simp)
  · rw [h59] at hi; exact absurd hi (by simp)
  · rw [h90] at hi; exact absurd hi (by simp)
  · rw [h33] at hd; exact absurd hd (by simp)
  · rw [h59] at hr; exact absurd hr (by simp)
theorem BE_up {X B : Nat → Int} (h : BE X B) (k : Nat) (v : Int) (hk : k < 33) : BE (up X k v) B := by
  obtain ⟨a1, a2, a3, a4, a5, a6, a7⟩ := h
  refine ⟨?_, ?_, ?_, ?_, fun i hi => ?_, fun i hi => ?_, fun i hi => ?_⟩
  · rw [up_n _ _ (by omega)]; exact a1
  · rw [up_n _ _ (by omega)]; exact a2
  · rw [up_n _ _ (by omega)]; exact a3
  · rw [up_n _ _ (by omega)]; exact a4
  · rw [up_n _ _ (by omega)]; exact a5 i hi
  · rw [up_n _ _ (by omega)]; exact a6 i hi
  · rw [up_n _ _ (by omega)]; exact a7 i hi
theorem BE_debt {X B : Nat → Int} (h : BE X B) (x y z : Int) (hB : 0 ≤ B 33 ∧ B 33 < 8) (h90 : B 90 ≤ 4) (h59 : B 59 ≤ 10) : BE (debtB X (X 33).toNat x y z) (debtB B (B 33).toNat x y z) := by
  obtain ⟨a1, a2, a3, a4, a5, a6, a7⟩ := h
  obtain ⟨d, hd⟩ : ∃ d, d = (B 33).toNat := ⟨_, rfl⟩
  rw [a1, ← hd]
  have w33 : debtB B d x y z 33 = d + 1 := up_s _ _ _
  have e : ∀ k, ¬ (34 ≤ k ∧ k ≤ 57) → k ≠ 33 → debtB B d x y z k = B k ∧ debtB X d x y z k = X k := fun k h1 h2 => by
    unfold debtB
    rw [up_n _ _ h2, up_n _ _ (by omega), up_n _ _ (by omega), up_n _ _ (by omega), up_n _ _ h2, up_n _ _ (by omega), up_n _ _ (by omega), up_n _ _ (by omega)]
    exact ⟨rfl, rfl⟩
  have e58 := e 58 (by omega) (by omega)
  have e59 := e 59 (by omega) (by omega)
  have e90 := e 90 (by omega) (by omega)
  refine ⟨?_, ?_, ?_, ?_, fun i hi => ?_, fun i hi => ?_, fun i hi => ?_⟩
  · rw [w33]; exact up_s _ _ _
  · rw [e58.1, e58.2]; exact a2
  · rw [e59.1, e59.2]; exact a3
  · rw [e90.1, e90.2]; exact a4
  · rw [w33] at hi
    unfold debtB
    simp only [up_app]
    by_cases hi2 : i < 3 * d
    · rw [a5 i (by omega)]
    · have hc : i = 3 * d ∨ i = 3 * d + 1 ∨ i = 3 * d + 2 := by omega
      rcases hc with rfl | rfl | rfl
      · rw [if_neg (by omega), if_neg (by omega), if_neg (by omega), if_pos (by omega), if_neg (by omega), if_neg (by omega), if_neg (by omega), if_pos (by omega)]
      · rw [if_neg (by omega), if_neg (by omega), if_pos (by omega), if_neg (by omega), if_neg (by omega), if_pos (by omega)]
      · rw [if_neg (by omega), if_pos (by omega), if_neg (by omega), if_pos (by omega)]
  · rw [e59.1] at hi
    have ee := e (60 + i) (by omega) (by omega)
    rw [ee.1, ee.2]; exact a6 i hi
  · rw [e90.1] at hi
    have ee := e (91 + i) (by omega) (by omega)
    rw [ee.1, ee.2]; exact a7 i hi
theorem DE_debt {F B : Nat → Int} (h : DE F B) (x y z : Int) (hB : 0 ≤ B 33 ∧ B 33 < 8) (h59 : B 59 ≤ 10) (hx : x < F 6) (hy : y < F 6) : DE F (debtB B (B 33).toNat x y z) := by
  obtain ⟨a1, a2⟩ := h
  obtain ⟨d, hd⟩ : ∃ d, d = (B 33).toNat := ⟨_, rfl⟩
  rw [← hd] at a1 ⊢
  have w33 : debtB B d x y z 33 = d + 1 := up_s _ _ _
  have e : ∀ k, ¬ (34 ≤ k ∧ k ≤ 57) → k ≠ 33 → debtB B d x y z k = B k := fun k h1 h2 => by
    unfold debtB
    rw [up_n _ _ h2, up_n _ _ (by omega), up_n _ _ (by omega), up_n _ _ (by omega)]
  refine ⟨fun c hc => ?_, fun r hr => ?_⟩
  · rw [w33] at hc
    by_cases hcd : c < d
    · have := a1 c hcd
      unfold debtB
      rw [up_n _ _ (by omega), up_n _ _ (by omega), up_n _ _ (by omega), up_n _ _ (by omega), up_n _ _ (by omega), up_n _ _ (by omega), up_n _ _ (by omega), up_n _ _ (by omega)]
      exact this
    · have hce : c = d := by omega
      subst hce
      unfold debtB
      rw [up_n _ _ (by omega), up_n _ _ (by omega), up_n _ _ (by omega), up_s, up_n _ _ (by omega), up_n _ _ (by omega), up_s]
      exact ⟨hx, hy⟩
  · rw [e 59 (by omega) (by omega)] at hr
    rw [e (61 + 3 * r) (by omega) (by omega)]
    exact a2 r hr

