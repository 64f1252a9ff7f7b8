/-! the two readings of a text are one -/
theorem readS_st (b : Nat → Int) (n d m a : Nat) (F B t : Nat → Int) : readS b n (d + 1) m a F B t = if (tok b n a).2.2 = 0 ∧ 0 < m then ((m : Int), F, B) else
      if (itemS b n (tok b n a).1 (tok b n a).2.1 (tok b n a).2.2 (decide (m = 0)) F B t).1 = true then readS b n d (m + 1) (itemS b n (tok b n a).1 (tok b n a).2.1 (tok b n a).2.2 (decide (m = 0)) F B t).2.2.1 (itemS b n (tok b n a).1 (tok b n a).2.1 (tok b n a).2.2 (decide (m = 0)) F B t).2.2.2.1 (itemS b n (tok b n a).1 (tok b n a).2.1 (tok b n a).2.2 (decide (m = 0)) F B t).2.2.2.2.1 (itemS b n (tok b n a).1 (tok b n a).2.1 (tok b n a).2.2 (decide (m = 0)) F B t).2.2.2.2.2
      else (-10 - ((itemS b n (tok b n a).1 (tok b n a).2.1 (tok b n a).2.2 (decide (m = 0)) F B t).2.1 : Int), (itemS b n (tok b n a).1 (tok b n a).2.1 (tok b n a).2.2 (decide (m = 0)) F B t).2.2.2.1, (itemS b n (tok b n a).1 (tok b n a).2.1 (tok b n a).2.2 (decide (m = 0)) F B t).2.2.2.2.1) := rfl
theorem read_rel {b : Nat → Int} {n : Nat} {Y : Int} (hY : 0 ≤ Y) : ∀ (d k a : Nat) (X s F B t : Nat → Int), 1 ≤ k → XE X F B → FI F Y → BI B → (readN b n d k a X s).1 = (readS b n d k a F B t).1 ∧ (0 ≤ (readS b n d k a F B t).1 → XE (readN b n d k a X s).2 (readS b n d k a F B t).2.1 (readS b n d k a F B t).2.2) := by
  intro d
  induction d with
  | zero => intro k a X s F B t hk hX hF hB; exact ⟨rfl, fun _ => hX⟩
  | succ d ih =>
    intro k a X s F B t hk hX hF hB
    rw [readN_st, readS_st, decide_eq_false (by omega)]
    obtain ⟨i1, i2, i3, i4⟩ := item_rel (b := b) (n := n) (T := tok b n a) (t := t) (s := s) hX hF hB hY
    generalize itemS b n (tok b n a).1 (tok b n a).2.1 (tok b n a).2.2 false F B t = E at i1 i2 i3 i4 ⊢
    generalize itemN b n (tok b n a) false X s = D at i1 i2 i3 i4 ⊢
    by_cases h0 : (tok b n a).2.2 = 0 ∧ 0 < k
    · rw [if_pos h0, if_pos h0]
      exact ⟨rfl, fun _ => hX⟩
    · rw [if_neg h0, if_neg h0, i1, i2, i3]
      by_cases hE : E.1 = true
      · rw [if_pos hE, if_pos hE]
        obtain ⟨j1, j2, j3⟩ := i4 hE
        exact ih (k + 1) E.2.2.1 _ _ _ _ _ (by omega) j1 j2 j3
      · rw [if_neg hE, if_neg hE]
        refine ⟨rfl, fun h => ?_⟩
        have h' : (0 : Int) ≤ -10 - (E.2.1 : Int) := h
        omega
theorem read_rel0 {b : Nat → Int} {n : Nat} {Y : Int} (hY : 0 ≤ Y) (d a : Nat) (X s F B t : Nat → Int) (h33 : B 33 = 0) (h58 : B 58 = 0) (h59 : B 59 = 0) (h90 : B 90 = 0) (hF : FI F Y) (hB : BI B) : (readN b n (d + 1) 0 a X s).1 = (readS b n (d + 1) 0 a F B t).1 ∧ (0 ≤ (readS b n (d + 1) 0 a F B t).1 → XE (readN b n (d + 1) 0 a X s).2 (readS b n (d + 1) 0 a F B t).2.1 (readS b n (d + 1) 0 a F B t).2.2) := by
  rw [readN_st, readS_st, decide_eq_true rfl]
  obtain ⟨i1, i2, i3, i4⟩ := first_rel (b := b) (n := n) (T := tok b n a) (t := t) (s := s) (X := X) h33 h58 h59 h90 hF hB hY
  generalize itemS b n (tok b n a).1 (tok b n a).2.1 (tok b n a).2.2 true F B t = E at i1 i2 i3 i4 ⊢
  generalize itemN b n (tok b n a) true X s = D at i1 i2 i3 i4 ⊢
  have h0 : ¬ ((tok b n a).2.2 = 0 ∧ 0 < 0) := fun q => absurd q.2 (by decide)
  rw [if_neg h0, if_neg h0, i1, i2, i3]
  by_cases hE : E.1 = true
  · rw [if_pos hE, if_pos hE]
    obtain ⟨j1, j2, j3⟩ := i4 hE
    exact read_rel hY d (0 + 1) E.2.2.1 _ _ _ _ _ (by omega) j1 j2 j3
  · rw [if_neg hE, if_neg hE]
    refine ⟨rfl, fun h => ?_⟩
    have h' : (0 : Int) ≤ -10 - (E.2.1 : Int) := h
    omega
/-- what is copied of a row keeps the relation -/
theorem XE_cp {X N F B : Nat → Int} (h : XE X F B) (hs : 0 ≤ F 6 ∧ F 6 ≤ 6) (hB : BI B) : XE (cpN X N 116) F B := by
  have e : ∀ k, k < 116 → cpN X N 116 k = X k := fun k hk => by unfold cpN; rw [if_pos hk]
  obtain ⟨r1, ⟨a1, a2, a3, a4, a5, a6, a7⟩, r3⟩ := id h
  have hb1 := hB.2.1
  have hb2 := hB.2.2.1
  have hb3 := hB.2.2.2.1
  refine ⟨?_, ⟨?_, ?_, ?_, ?_, fun i hi => ?_, fun i hi => ?_, fun i hi => ?_⟩, r3⟩
  · rw [← r1]
    have z : sizeF (cpN X N 116) = sizeF X := by unfold sizeF; rw [e 6 (by omega)]
    unfold trF
    rw [z]
    funext k
    unfold tr
    by_cases hk : (7 + 4 * sizeF X ≤ k ∧ k < 31) ∨ 33 ≤ k
    · rw [if_pos hk, if_pos hk]
    · rw [if_neg hk, if_neg hk, e k (by omega)]
  · rw [e 33 (by omega)]; exact a1
  · rw [e 58 (by omega)]; exact a2
  · rw [e 59 (by omega)]; exact a3
  · rw [e 90 (by omega)]; exact a4
  · rw [e _ (by omega)]; exact a5 i hi
  · rw [e _ (by omega)]; exact a6 i hi
  · rw [e _ (by omega)]; exact a7 i hi

