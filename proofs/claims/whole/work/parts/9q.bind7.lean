/-! images, and the text read -/
def ZN (X : Nat → Int) (Y : Int) : Prop := FI X Y ∧ BI X ∧ X 115 = 0
theorem add_ZN {item : Nat} {s X : Nat → Int} {Y : Int} (hit : 1 ≤ item ∧ item < 5) (hY : 0 ≤ Y) (hZ : ZN X Y) (h2 : ¬ ((item : Int) = 2 ∧ 6 ≤ X 6)) (h4 : ¬ ((item : Int) = 4 ∧ 8 ≤ X 33)) (ht : ∀ j, j < (atT numsT item).toNat → inB item (X 6) j (s j)) : ZN (addN (item : Int) s X) Y := by
  obtain ⟨hF, hB, h115⟩ := hZ
  have hs := hF.2.2.2.2.2.2.1
  have hd := hB.2.1
  obtain ⟨-, g1, g2⟩ := addS_in (by omega) hF hB hY h2 h4 ht
  rcases (show item = 1 ∨ item = 2 ∨ item = 3 ∨ item = 4 by omega) with rfl | rfl | rfl | rfl
  · have t0 : 0 ≤ s 0 ∧ s 0 ≤ 3 := ht 0 (by decide)
    replace g1 : FI (up X (2 + (s 0).toNat) (s 1)) Y := g1
    show ZN (up X (2 + (s 0).toNat) (s 1)) Y
    exact ⟨g1, BI_k hB (fun k h1 h2 => up_n _ _ (by omega)), (up_n _ _ (by omega)).trans h115⟩
  · replace g1 : FI (setlF X (sizeF X) (s 0) (s 1) (s 2)) Y := g1
    show ZN (setlF X (sizeF X) (s 0) (s 1) (s 2)) Y
    obtain ⟨hs6, hsz⟩ := sizeF_le hF
    have e : ∀ k, 33 ≤ k → setlF X (sizeF X) (s 0) (s 1) (s 2) k = X k := fun k hk => by
      unfold setlF
      rw [up_n _ _ (by omega), up_n _ _ (by omega), up_n _ _ (by omega), up_n _ _ (by omega), up_n _ _ (by omega)]
    exact ⟨g1, BI_k hB (fun k h1 h2 => e k h1), (e 115 (by decide)).trans h115⟩
  · have t0 : 0 ≤ s 0 ∧ s 0 ≤ X 6 - 1 := ht 0 (by decide)
    replace g1 : FI (up X (10 + 4 * (s 0).toNat) (s 1)) Y := g1
    show ZN (up X (10 + 4 * (s 0).toNat) (s 1)) Y
    exact ⟨g1, BI_k hB (fun k h1 h2 => up_n _ _ (by omega)), (up_n _ _ (by omega)).trans h115⟩
  · replace g2 : BI (debtB X (X 33).toNat (s 0) (s 1) (s 2)) := g2
    show ZN (debtB X (X 33).toNat (s 0) (s 1) (s 2)) Y
    refine ⟨FI_hi (FI_hi (FI_hi (FI_hi hF (by omega)) (by omega)) (by omega)) (by omega), g2, ?_⟩
    unfold debtB
    rw [up_n _ _ (by omega), up_n _ _ (by omega), up_n _ _ (by omega), up_n _ _ (by omega)]; exact h115
theorem item_ZN {b : Nat → Int} {n : Nat} {T : Nat × Nat × Int} {s X : Nat → Int} {Y : Int} (hY : 0 ≤ Y) (hZ : ZN X Y) (h : (itemN b n T false X s).1 = true) : ZN (itemN b n T false X s).2.2.2.1 Y := by
  have hi := itemB_in b T.1 T.2.1 T.2.2
  rw [itemN_f] at h ⊢
  by_cases hc : itemB b T.1 T.2.1 T.2.2 = -1 ∨ itemB b T.1 T.2.1 T.2.2 = 0 ∨ (itemB b T.1 T.2.1 T.2.2 = 2 ∧ 6 ≤ X 6) ∨ (itemB b T.1 T.2.1 T.2.2 = 4 ∧ 8 ≤ X 33)
  · rw [argN_no hc, endN_f rfl] at h
    cases h
  · have hN : argN b n T X s = argS b n (itemB b T.1 T.2.1 T.2.2).toNat (X 6) (atT numsT (itemB b T.1 T.2.1 T.2.2).toNat).toNat 0 T.2.1 s := by
      unfold argN; rw [if_neg hc]
    rw [hN] at h ⊢
    obtain ⟨item, hit⟩ : ∃ item : Nat, itemB b T.1 T.2.1 T.2.2 = (item : Int) := ⟨(itemB b T.1 T.2.1 T.2.2).toNat, by omega⟩
    rw [hit] at hc h ⊢
    rw [Int.toNat_natCast] at h ⊢
    have hok := argS_ok b n item (X 6) (atT numsT item).toNat 0 T.2.1 s
    generalize argS b n item (X 6) (atT numsT item).toNat 0 T.2.1 s = A at hok h ⊢
    unfold endN at h ⊢
    by_cases hA : A.1 = true
    · rw [if_pos hA] at h ⊢
      by_cases hk : (tok b n A.2.2.1).2.2 = 1
      · rw [if_pos hk] at h ⊢
        have hb := hok hA (fun j hj => absurd hj (by omega))
        exact add_ZN (by omega) hY hZ (by omega) (by omega) (fun j hj => hb j (by omega))
      · rw [if_neg hk] at h
        cases h
    · rw [if_neg hA] at h
      cases h
theorem first_ZN {b : Nat → Int} {n : Nat} {T : Nat × Nat × Int} {s X : Nat → Int} {Y : Int} (hY : 0 ≤ Y) (h : (itemN b n T true X s).1 = true) : ZN (itemN b n T true X s).2.2.2.1 Y := by
  rw [itemN_t] at h ⊢
  unfold argF at h ⊢
  by_cases hc : itemB b T.1 T.2.1 T.2.2 = 0
  · rw [if_pos hc] at h ⊢
    have hok := argS_ok b n 0 (X 6) (0 + 1) 0 T.2.1 s
    generalize argS b n 0 (X 6) (0 + 1) 0 T.2.1 s = A at hok h ⊢
    unfold endN at h ⊢
    by_cases hA : A.1 = true
    · rw [if_pos hA] at h ⊢
      by_cases hk : (tok b n A.2.2.1).2.2 = 1
      · rw [if_pos hk] at h ⊢
        have hb : 2 ≤ A.2.2.2 0 ∧ A.2.2.2 0 ≤ 70 := hok hA (fun j hj => absurd hj (by omega)) 0 (by omega)
        show ZN (begR X (A.2.2.2 0)) Y
        exact ⟨FI_begR X hY hb, BI_begR X _, by unfold begR; rw [if_neg (by decide), if_pos (by decide)]⟩
      · rw [if_neg hk] at h
        cases h
    · rw [if_neg hA] at h
      cases h
  · rw [if_neg hc, endN_f rfl] at h
    cases h
theorem read_all {b : Nat → Int} {n : Nat} {Y : Int} (hY : 0 ≤ Y) : ∀ (d k a : Nat) (X s F B t : Nat → Int), 1 ≤ k → XE X F B → FI F Y → BI B → ZN X Y → (0 ≤ (readS b n d k a F B t).1 → FI (readS b n d k a F B t).2.1 Y ∧ BI (readS b n d k a F B t).2.2 ∧ ZN (readN b n d k a X s).2 Y) := by
  intro d
  induction d with
  | zero => intro k a X s F B t hk hX hF hB hZ _; exact ⟨hF, hB, hZ⟩
  | succ d ih =>
    intro k a X s F B t hk hX hF hB hZ
    rw [readN_st, readS_st, decide_eq_false (by omega)]
    obtain ⟨i1, i2, i3, i4⟩ := item_rel (b := b) (n := n) (T := tok b n a) (t := t) (s := s) hX hF hB hY
    have i5 := item_ZN (b := b) (n := n) (T := tok b n a) (s := s) hY hZ
    generalize itemS b n (tok b n a).1 (tok b n a).2.1 (tok b n a).2.2 false F B t = E at i1 i2 i3 i4 ⊢
    generalize itemN b n (tok b n a) false X s = D at i1 i2 i3 i4 i5 ⊢
    by_cases h0 : (tok b n a).2.2 = 0 ∧ 0 < k
    · rw [if_pos h0, if_pos h0]
      exact fun _ => ⟨hF, hB, hZ⟩
    · rw [if_neg h0, if_neg h0, i1, i2, i3]
      by_cases hE : E.1 = true
      · rw [if_pos hE, if_pos hE]
        obtain ⟨j1, j2, j3⟩ := i4 hE
        exact ih (k + 1) E.2.2.1 _ _ _ _ _ (by omega) j1 j2 j3 (i5 (i1.trans hE))
      · rw [if_neg hE, if_neg hE]
        intro h
        have h' : (0 : Int) ≤ -10 - (E.2.1 : Int) := h
        omega
theorem read_all0 {b : Nat → Int} {n : Nat} {Y : Int} (hY : 0 ≤ Y) (d a : Nat) (X s F B t : Nat → Int) (h33 : B 33 = 0) (h58 : B 58 = 0) (h59 : B 59 = 0) (h90 : B 90 = 0) (hF : FI F Y) (hB : BI B) : (0 ≤ (readS b n (d + 1) 0 a F B t).1 → FI (readS b n (d + 1) 0 a F B t).2.1 Y ∧ BI (readS b n (d + 1) 0 a F B t).2.2 ∧ ZN (readN b n (d + 1) 0 a X s).2 Y) := by
  rw [readN_st, readS_st, decide_eq_true rfl]
  obtain ⟨i1, i2, i3, i4⟩ := first_rel (b := b) (n := n) (T := tok b n a) (t := t) (s := s) (X := X) h33 h58 h59 h90 hF hB hY
  have i5 := first_ZN (b := b) (n := n) (T := tok b n a) (s := s) (X := X) hY
  generalize itemS b n (tok b n a).1 (tok b n a).2.1 (tok b n a).2.2 true F B t = E at i1 i2 i3 i4 ⊢
  generalize itemN b n (tok b n a) true X s = D at i1 i2 i3 i4 i5 ⊢
  have h0 : ¬ ((tok b n a).2.2 = 0 ∧ 0 < 0) := fun q => absurd q.2 (by decide)
  rw [if_neg h0, if_neg h0, i1, i2, i3]
  by_cases hE : E.1 = true
  · rw [if_pos hE, if_pos hE]
    obtain ⟨j1, j2, j3⟩ := i4 hE
    exact read_all hY d (0 + 1) E.2.2.1 _ _ _ _ _ (by omega) j1 j2 j3 (i5 (i1.trans hE))
  · rw [if_neg hE, if_neg hE]
    intro h
    have h' : (0 : Int) ≤ -10 - (E.2.1 : Int) := h
    omega
section RELS
variable {S : YS} {T : RS} {Y : Int}
theorem rel_read (h : YR S T Y) (hS : SI S Y) (hY : 0 ≤ Y) (F B t X s : Nat → Int) (x : Int) (p : Nat → Nat → Int) (hF : FI F Y) (hB : BI B) : RR (readY S F B t x p) (readM (readN T.2.2.2.2.1 T.2.2.2.2.2.1.toNat (T.2.2.2.2.2.1.toNat + 2) 0 0 X s) T) Y := by
  obtain ⟨-, -, -, h4, h5, -⟩ := id h
  have e33 : begB B 33 = 0 := by unfold begB; rw [up_n _ _ (by decide), up_n _ _ (by decide), up_s]
  have e58 : begB B 58 = 0 := by unfold begB; rw [up_n _ _ (by decide), up_n _ _ (by decide), up_n _ _ (by decide), up_s]
  have e59 : begB B 59 = 0 := by unfold begB; rw [up_n _ _ (by decide), up_s]
  have e90 : begB B 90 = 0 := by unfold begB; rw [up_s]
  have hF' := FI_beg hF hY (y := 10) (by omega)
  have hB' := BI_beg hB
  rw [h4, h5]
  unfold readY readM rdR
  generalize S.2.2.2.1 = b
  generalize S.2.2.2.2.1.toNat = n
  obtain ⟨r1, r2⟩ := read_rel0 (b := b) (n := n) (Y := Y) hY (n + 1) 0 X s (begF F 10) (begB B) t e33 e58 e59 e90 hF' hB'
  have r3 := read_all0 (b := b) (n := n) (Y := Y) hY (n + 1) 0 X s (begF F 10) (begB B) t e33 e58 e59 e90 hF' hB'
  rw [show n + 1 + 1 = n + 2 from rfl] at r1 r2 r3
  generalize readN b n (n + 2) 0 0 X s = D at r1 r2 r3 ⊢
  generalize readS b n (n + 2) 0 0 (begF F 10) (begB B) t = E at r1 r2 r3 ⊢
  refine ⟨r1.symm, ?_⟩
  by_cases hE : 0 ≤ E.1
  · show YR (if 0 ≤ E.1 then _ else _) (if 0 ≤ D.1 then _ else _) Y
    rw [if_pos hE, if_pos (by rw [r1]; exact hE)]
    obtain ⟨q1, q2, q3, q4, q5⟩ := r3 hE
    have e : ∀ k, k < 116 → cpN D.2 T.1 116 k = D.2 k := fun k hk => by unfold cpN; rw [if_pos hk]
    have e115 : cpN D.2 T.1 116 115 = 0 := (e 115 (by decide)).trans q5
    refine YR_lump h ⟨XL_set ⟨XE_cp (r2 hE) q1.2.2.2.2.2.2.1 q2, e115, fun j hj => absurd (show (j : Int) < 0 from hj) (by omega)⟩, ?_⟩ (by omega)
    exact ⟨FI_k q3 (fun k hk => e k (by omega)), BI_k q4 (fun k h1 h2 => e k (by omega)), by rw [e115]; omega, fun j hj => by rw [e115] at hj; omega⟩
  · show YR (if 0 ≤ E.1 then _ else _) (if 0 ≤ D.1 then _ else _) Y
    rw [if_neg hE, if_neg (by rw [r1]; exact hE)]
    exact h
theorem bit_im : ∀ k : Fin 4, ∀ i q : Fin 2, (0 ≤ b_or (k.val : Int) (b_shl 1 (i.val : Int)) ∧ b_or (k.val : Int) (b_shl 1 (i.val : Int)) ≤ 3) ∧ b_and (b_shr (b_or (k.val : Int) (b_shl 1 (i.val : Int))) (q.val : Int)) 1 = if q.val = i.val then 1 else b_and (b_shr (k.val : Int) (q.val : Int)) 1 := by decide +kernel
theorem rel_image (h : YR S T Y) (hS : SI S Y) (i : Int) : RR (imageS S i) (imageM T i) Y := by
  unfold imageS imageM
  by_cases hc : 0 ≤ i ∧ i ≤ 1
  · rw [if_pos hc, if_pos hc]
    obtain ⟨a, rfl⟩ : ∃ a : Nat, i = (a : Int) := ⟨i.toNat, by omega⟩
    rw [Int.toNat_natCast]
    have ha : a < 2 := by omega
    obtain ⟨h1, ⟨hk, hq⟩, h3⟩ := id h
    obtain ⟨kk, hkk⟩ : ∃ kk : Nat, S.2.2.2.2.2.1 = (kk : Int) := ⟨S.2.2.2.2.2.1.toNat, by omega⟩
    have hu := hS.1.2.2.2.1.2
    refine ⟨rfl, h1, ⟨?_, fun q hq2 => ?_⟩, h3⟩
    · show 0 ≤ b_or S.2.2.2.2.2.1 (b_shl 1 (a : Int)) ∧ b_or S.2.2.2.2.2.1 (b_shl 1 (a : Int)) ≤ 3
      rw [hkk]
      exact (bit_im ⟨kk, by omega⟩ ⟨a, ha⟩ ⟨0, by decide⟩).1
    · have hb := (bit_im ⟨kk, by omega⟩ ⟨a, ha⟩ ⟨q, hq2⟩).2
      show (up T.2.2.1 a 1 q = 0 ∨ up T.2.2.1 a 1 q = 1) ∧ b_and (b_shr (b_or S.2.2.2.2.2.1 (b_shl 1 (a : Int))) (q : Int)) 1 = up T.2.2.1 a 1 q ∧ (up T.2.2.1 a 1 q = 1 → XZ (fun x => kepR T.2.1 T.1 a 236 (236 * q + x)) (if q = 0 then (if a = 0 then setL (imgL S a) S.1 else S.2.1) else (if a = 0 then S.2.2.1 else setL (imgL S a) S.1)) Y)
      rw [hkk]
      by_cases hqa : q = a
      · subst hqa
        rw [up_s]
        refine ⟨Or.inr rfl, hb.trans (if_pos rfl), fun _ => ?_⟩
        have e : ∀ x, x < 236 → (fun x => kepR T.2.1 T.1 q 236 (236 * q + x)) x = T.1 x := fun x hx => by
          show kepR T.2.1 T.1 q 236 (236 * q + x) = T.1 x
          unfold kepR
          rw [if_pos (by omega), show 236 * q + x - 236 * q = x by omega]
        have g : XZ (fun x => kepR T.2.1 T.1 q 236 (236 * q + x)) (setL (imgL S q) S.1) Y := ⟨XL_set (XL_cp h1.1 (YR_bi hS) hu e), ZX_cp h1.2 e⟩
        rcases (show q = 0 ∨ q = 1 by omega) with rfl | rfl
        · exact g
        · exact g
      · rw [up_n _ _ hqa]
        have hh := hq q hq2
        refine ⟨hh.1, ?_, fun hj => ?_⟩
        · rw [show b_and (b_shr (b_or (kk : Int) (b_shl 1 (a : Int))) (q : Int)) 1 = b_and (b_shr (kk : Int) (q : Int)) 1 from hb.trans (if_neg hqa), ← hkk]
          exact hh.2.1
        · obtain ⟨g1, g2⟩ := hh.2.2 hj
          have e : ∀ x, x < 236 → (fun x => kepR T.2.1 T.1 a 236 (236 * q + x)) x = (fun x => T.2.1 (236 * q + x)) x := fun x hx => by
            show kepR T.2.1 T.1 a 236 (236 * q + x) = T.2.1 (236 * q + x)
            unfold kepR
            rw [if_neg (by omega)]
          rcases (show q = 0 ∧ a = 1 ∨ q = 1 ∧ a = 0 by omega) with ⟨rfl, rfl⟩ | ⟨rfl, rfl⟩
          · exact ⟨XL_cp g1 hS.2.1.2.1 hS.2.1.2.2.2.1.2 e, ZX_cp g2 e⟩
          · exact ⟨XL_cp g1 hS.2.2.1.2.1 hS.2.2.1.2.2.2.1.2 e, ZX_cp g2 e⟩
  · rw [if_neg hc, if_neg hc]
    exact ⟨rfl, YR_bad h⟩
theorem rel_from (h : YR S T Y) (hS : SI S Y) (i : Int) : RR (fromS S i) (fromM T i) Y := by
  unfold fromS fromM
  by_cases hc : 0 ≤ i ∧ i ≤ 1
  · rw [if_pos hc, if_pos hc]
    obtain ⟨a, rfl⟩ : ∃ a : Nat, i = (a : Int) := ⟨i.toNat, by omega⟩
    rw [Int.toNat_natCast]
    obtain ⟨hh1, hh2, hh3⟩ := h.2.1.2 a (by omega)
    rw [hh2]
    by_cases hj : T.2.2.1 a = 0
    · rw [if_pos hj, if_pos hj]
      exact ⟨rfl, YR_no h⟩
    · rw [if_neg hj, if_neg hj]
      obtain ⟨g1, g2⟩ := hh3 (hh1.resolve_left hj)
      have e : ∀ x, x < 236 → goeR T.2.1 T.1 a 236 x = (fun x => T.2.1 (236 * a + x)) x := fun x hx => by unfold goeR; rw [if_pos hx]
      refine ⟨rfl, YR_lump h ⟨XL_set ?_, ZX_cp g2 e⟩ (by omega)⟩
      unfold imgL
      rcases (show a = 0 ∨ a = 1 by omega) with rfl | rfl
      · exact XL_cp g1 hS.2.1.2.1 hS.2.1.2.2.2.1.2 e
      · exact XL_cp g1 hS.2.2.1.2.1 hS.2.2.1.2.2.2.1.2 e
  · rw [if_neg hc, if_neg hc]
    exact ⟨rfl, YR_bad h⟩
end RELS

