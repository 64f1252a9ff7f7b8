/-! the two readings are one -/
theorem add_rel {item : Nat} {t s X F B : Nat → Int} {Y : Int} (hit : 1 ≤ item ∧ item < 5) (hX : XE X F B) (hF : FI F Y) (hB : BI B) (h2 : ¬ ((item : Int) = 2 ∧ 6 ≤ F 6)) (h4 : ¬ ((item : Int) = 4 ∧ 8 ≤ B 33)) (ht : ∀ j, j < (atT numsT item).toNat → inB item (F 6) j (t j)) (hts : ∀ j, j < (atT numsT item).toNat → s j = t j) : XE (addN (item : Int) s X) (addS (item : Int) t F B).1 (addS (item : Int) t F B).2 := by
  have hs := hF.2.2.2.2.2.2.1
  have hd := hB.2.1
  have h59 := hB.2.2.1
  have h90 := hB.2.2.2.1
  have hx6 := XE_6 hX
  have hxs := XE_sz hX
  have hsf : sizeF F = (F 6).toNat := rfl
  obtain ⟨r1, r2, r3⟩ := id hX
  rcases (show item = 1 ∨ item = 2 ∨ item = 3 ∨ item = 4 by omega) with rfl | rfl | rfl | rfl
  · have t0 : 0 ≤ t 0 ∧ t 0 ≤ 3 := ht 0 (by decide)
    have s0 := hts 0 (by decide)
    have s1 := hts 1 (by decide)
    show XE (up X (2 + (s 0).toNat) (s 1)) (up F (2 + (t 0).toNat) (t 1)) B
    rw [s0, s1]
    refine ⟨by rw [trF_up _ _ (by omega), trF_up _ _ (by omega), r1], BE_up r2 _ _ (by omega), ?_⟩
    unfold DE
    rw [up_n _ _ (by omega)]; exact r3
  · have s0 := hts 0 (by decide)
    have s1 := hts 1 (by decide)
    have s2 := hts 2 (by decide)
    show XE (setlF X (sizeF X) (s 0) (s 1) (s 2)) (setlF F (sizeF F) (t 0) (t 1) (t 2)) B
    rw [s0, s1, s2]
    refine ⟨by rw [trF_setl X _ _ _ (by omega), trF_setl F _ _ _ (by omega), r1, hxs], ?_, ?_⟩
    · unfold setlF
      exact BE_up (BE_up (BE_up (BE_up (BE_up r2 _ _ (by omega)) _ _ (by omega)) _ _ (by omega)) _ _ (by omega)) _ _ (by omega)
    · have e6 : setlF F (sizeF F) (t 0) (t 1) (t 2) 6 = F 6 + 1 := by
        unfold setlF
        rw [up_n _ _ (by omega), up_n _ _ (by omega), up_n _ _ (by omega), up_n _ _ (by omega), up_s]
      unfold DE
      rw [e6]
      exact ⟨fun d hd => ⟨by have := (r3.1 d hd).1; omega, by have := (r3.1 d hd).2; omega⟩, fun r hr => by have := r3.2 r hr; omega⟩
  · have t0 : 0 ≤ t 0 ∧ t 0 ≤ F 6 - 1 := ht 0 (by decide)
    have s0 := hts 0 (by decide)
    have s1 := hts 1 (by decide)
    show XE (up X (10 + 4 * (s 0).toNat) (s 1)) (up F (10 + 4 * (t 0).toNat) (t 1)) B
    rw [s0, s1]
    have z1 : ∀ R : Nat → Int, sizeF (up R (10 + 4 * (t 0).toNat) (t 1)) = sizeF R := fun R => by unfold sizeF; rw [up_n _ _ (by omega)]
    refine ⟨?_, BE_up r2 _ _ (by omega), ?_⟩
    · unfold trF
      rw [z1, z1, tr_up _ _ (by omega), tr_up _ _ (by omega)]
      show up (trF X) _ _ = up (trF F) _ _
      rw [r1]
    · unfold DE
      rw [up_n _ _ (by omega)]; exact r3
  · have t0 : 0 ≤ t 0 ∧ t 0 ≤ F 6 - 1 := ht 0 (by decide)
    have t1 : 0 ≤ t 1 ∧ t 1 ≤ F 6 - 1 := ht 1 (by decide)
    have s0 := hts 0 (by decide)
    have s1 := hts 1 (by decide)
    have s2 := hts 2 (by decide)
    show XE (debtB X (X 33).toNat (s 0) (s 1) (s 2)) F (debtB B (B 33).toNat (t 0) (t 1) (t 2))
    rw [s0, s1, s2]
    refine ⟨?_, BE_debt r2 _ _ _ (by omega) h90.2 h59.2, DE_debt r3 _ _ _ (by omega) h59.2 (by omega) (by omega)⟩
    rw [← r1]
    have z1 : sizeF (debtB X (X 33).toNat (t 0) (t 1) (t 2)) = sizeF X := by unfold sizeF debtB; rw [up_n _ _ (by omega), up_n _ _ (by omega), up_n _ _ (by omega), up_n _ _ (by omega)]
    unfold trF
    rw [z1]
    funext k
    unfold tr
    by_cases hk : (7 + 4 * sizeF X ≤ k ∧ k < 31) ∨ 33 ≤ k
    · rw [if_pos hk, if_pos hk]
    · rw [if_neg hk, if_neg hk]
      unfold debtB
      rw [up_n _ _ (by omega), up_n _ _ (by omega), up_n _ _ (by omega), up_n _ _ (by omega)]
/-- a later item -/
theorem item_rel {b : Nat → Int} {n : Nat} {T : Nat × Nat × Int} {t s X F B : Nat → Int} {Y : Int} (hX : XE X F B) (hF : FI F Y) (hB : BI B) (hY : 0 ≤ Y) : (itemN b n T false X s).1 = (itemS b n T.1 T.2.1 T.2.2 false F B t).1 ∧ (itemN b n T false X s).2.1 = (itemS b n T.1 T.2.1 T.2.2 false F B t).2.1 ∧ (itemN b n T false X s).2.2.1 = (itemS b n T.1 T.2.1 T.2.2 false F B t).2.2.1 ∧ ((itemS b n T.1 T.2.1 T.2.2 false F B t).1 = true → XE (itemN b n T false X s).2.2.2.1 (itemS b n T.1 T.2.1 T.2.2 false F B t).2.2.2.1 (itemS b n T.1 T.2.1 T.2.2 false F B t).2.2.2.2.1 ∧ FI (itemS b n T.1 T.2.1 T.2.2 false F B t).2.2.2.1 Y ∧ BI (itemS b n T.1 T.2.1 T.2.2 false F B t).2.2.2.2.1) := by
  have hx6 := XE_6 hX
  have hx33 := hX.2.1.1
  have hi := itemB_in b T.1 T.2.1 T.2.2
  rw [itemN_f]
  unfold itemS
  by_cases hc : itemB b T.1 T.2.1 T.2.2 = -1 ∨ itemB b T.1 T.2.1 T.2.2 = 0 ∨ (itemB b T.1 T.2.1 T.2.2 = 2 ∧ 6 ≤ X 6) ∨ (itemB b T.1 T.2.1 T.2.2 = 4 ∧ 8 ≤ X 33)
  · have hc2 : itemB b T.1 T.2.1 T.2.2 = -1 ∨ (decide (itemB b T.1 T.2.1 T.2.2 = 0) ≠ false) ∨ (itemB b T.1 T.2.1 T.2.2 = 2 ∧ 6 ≤ F 6) ∨ (itemB b T.1 T.2.1 T.2.2 = 4 ∧ 8 ≤ B 33) := by
      rcases hc with h | h | h | h
      · exact Or.inl h
      · exact Or.inr (Or.inl (by rw [decide_eq_true h]; decide))
      · exact Or.inr (Or.inr (Or.inl (by omega)))
      · exact Or.inr (Or.inr (Or.inr (by omega)))
    rw [argN_no hc, endN_f rfl, if_pos hc2]
    exact ⟨rfl, rfl, rfl, fun h => by cases h⟩
  · have hc2 : ¬ (itemB b T.1 T.2.1 T.2.2 = -1 ∨ (decide (itemB b T.1 T.2.1 T.2.2 = 0) ≠ false) ∨ (itemB b T.1 T.2.1 T.2.2 = 2 ∧ 6 ≤ F 6) ∨ (itemB b T.1 T.2.1 T.2.2 = 4 ∧ 8 ≤ B 33)) := by
      intro h
      rcases h with h | h | h | h
      · exact hc (Or.inl h)
      · rw [decide_eq_false (fun z => hc (Or.inr (Or.inl z)))] at h; exact h rfl
      · exact hc (Or.inr (Or.inr (Or.inl (by omega))))
      · exact hc (Or.inr (Or.inr (Or.inr (by omega))))
    rw [if_neg hc2]
    have hN : argN b n T X s = argS b n (itemB b T.1 T.2.1 T.2.2).toNat (F 6) (atT numsT (itemB b T.1 T.2.1 T.2.2).toNat).toNat 0 T.2.1 s := by
      unfold argN; rw [if_neg hc, hx6]
    rw [hN]
    obtain ⟨item, hit⟩ : ∃ item : Nat, itemB b T.1 T.2.1 T.2.2 = (item : Int) := ⟨(itemB b T.1 T.2.1 T.2.2).toNat, by omega⟩
    rw [hit] at hc ⊢
    rw [Int.toNat_natCast]
    obtain ⟨g1, g2, g3, g4⟩ := argS_ag b n item (F 6) (atT numsT item).toNat 0 T.2.1 t s (fun j hj => absurd hj (by omega))
    have hok := argS_ok b n item (F 6) (atT numsT item).toNat 0 T.2.1 t
    generalize argS b n item (F 6) (atT numsT item).toNat 0 T.2.1 t = A at g1 g2 g3 g4 hok ⊢
    generalize argS b n item (F 6) (atT numsT item).toNat 0 T.2.1 s = D at g1 g2 g3 g4 ⊢
    unfold endN endS
    rw [← g1, ← g2, ← g3]
    by_cases hA : A.1 = true
    · rw [if_pos hA, if_pos hA]
      by_cases hk : (tok b n A.2.2.1).2.2 = 1
      · rw [if_pos hk, if_pos hk]
        have hb := hok hA (fun j hj => absurd hj (by omega))
        refine ⟨rfl, rfl, rfl, fun _ => ⟨?_, ?_⟩⟩
        · exact add_rel (by omega) hX hF hB (by omega) (by omega) (fun j hj => hb j (by omega)) (fun j hj => (g4 hA j (by omega)).symm)
        · exact (addS_in (by omega) hF hB hY (by omega) (by omega) (fun j hj => hb j (by omega))).2
      · rw [if_neg hk, if_neg hk]
        exact ⟨rfl, rfl, rfl, fun h => by cases h⟩
    · rw [if_neg hA, if_neg hA]
      exact ⟨rfl, rfl, rfl, fun h => by cases h⟩
/-- the first item -/
theorem first_rel {b : Nat → Int} {n : Nat} {T : Nat × Nat × Int} {t s X F B : Nat → Int} {Y : Int} (h33 : B 33 = 0) (h58 : B 58 = 0) (h59 : B 59 = 0) (h90 : B 90 = 0) (hF : FI F Y) (hB : BI B) (hY : 0 ≤ Y) : (itemN b n T true X s).1 = (itemS b n T.1 T.2.1 T.2.2 true F B t).1 ∧ (itemN b n T true X s).2.1 = (itemS b n T.1 T.2.1 T.2.2 true F B t).2.1 ∧ (itemN b n T true X s).2.2.1 = (itemS b n T.1 T.2.1 T.2.2 true F B t).2.2.1 ∧ ((itemS b n T.1 T.2.1 T.2.2 true F B t).1 = true → XE (itemN b n T true X s).2.2.2.1 (itemS b n T.1 T.2.1 T.2.2 true F B t).2.2.2.1 (itemS b n T.1 T.2.1 T.2.2 true F B t).2.2.2.2.1 ∧ FI (itemS b n T.1 T.2.1 T.2.2 true F B t).2.2.2.1 Y ∧ BI (itemS b n T.1 T.2.1 T.2.2 true F B t).2.2.2.2.1) := by
  rw [itemN_t]
  unfold itemS argF
  by_cases hc : itemB b T.1 T.2.1 T.2.2 = 0
  · rw [hc, if_pos rfl, if_neg (by intro h; rcases h with h | h | h | h <;> revert h <;> simp)]
    have hagF := argS_ag b n 0 (F 6) 1 0 T.2.1 t s (fun j hj => absurd hj (by omega))
    have hfam : ∀ fam : Int, argS b n 0 fam (0 + 1) 0 T.2.1 s = argS b n 0 (F 6) 1 0 T.2.1 s := by
      intro fam
      show argS b n 0 fam (0 + 1) 0 T.2.1 s = argS b n 0 (F 6) (0 + 1) 0 T.2.1 s
      rw [arg_st, arg_st]
      simp only [ft00]
      rfl
    rw [hfam]
    obtain ⟨g1, g2, g3, g4⟩ := hagF
    have hok := argS_ok b n 0 (F 6) 1 0 T.2.1 t
    rw [show (0 : Int).toNat = 0 from rfl, show (atT numsT 0).toNat = 1 from rfl]
    generalize argS b n 0 (F 6) 1 0 T.2.1 t = A at g1 g2 g3 g4 hok ⊢
    generalize argS b n 0 (F 6) 1 0 T.2.1 s = D at g1 g2 g3 g4 ⊢
    unfold endN endS
    rw [← g1, ← g2, ← g3]
    by_cases hA : A.1 = true
    · rw [if_pos hA, if_pos hA]
      by_cases hk : (tok b n A.2.2.1).2.2 = 1
      · rw [if_pos hk, if_pos hk]
        have hb := hok hA (fun j hj => absurd hj (by omega))
        refine ⟨rfl, rfl, rfl, fun _ => ⟨?_, ?_⟩⟩
        · show XE (begR X (D.2.2.2 0)) (begF F (A.2.2.2 0)) B
          rw [← g4 hA 0 (by omega)]
          exact XE_beg X F B _ h33 h58 h59 h90
        · exact (addS_in (item := 0) (by omega) hF hB hY (by omega) (by omega) (fun j hj => hb j (by have : (atT numsT 0).toNat = 1 := rfl; omega))).2
      · rw [if_neg hk, if_neg hk]
        exact ⟨rfl, rfl, rfl, fun h => by cases h⟩
    · rw [if_neg hA, if_neg hA]
      exact ⟨rfl, rfl, rfl, fun h => by cases h⟩
  · rw [if_neg hc, if_pos (Or.inr (Or.inl (by rw [decide_eq_false hc]; decide))), endN_f rfl]
    exact ⟨rfl, rfl, rfl, fun h => by cases h⟩

