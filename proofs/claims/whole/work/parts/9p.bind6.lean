/-! the calls that only look, words, the text, years -/
section RELS
variable {S : YS} {T : RS} {Y : Int}
theorem up0_le (B : Nat → Int) (p q : Nat) : (up B p 0 q).toNat ≤ (B q).toNat := by
  rw [up_app]
  by_cases h : q = p
  · rw [if_pos h]; exact Nat.zero_le _
  · rw [if_neg h]; exact Nat.le_refl _
theorem BE_up0 {X B : Nat → Int} (h : BE X B) (p : Nat) : BE (up X p 0) (up B p 0) := by
  obtain ⟨a1, a2, a3, a4, a5, a6, a7⟩ := h
  have u33 := up0_le B p 33; have u59 := up0_le B p 59; have u90 := up0_le B p 90
  exact ⟨up_eq 0 a1, up_eq 0 a2, up_eq 0 a3, up_eq 0 a4, fun i hi => up_eq 0 (a5 i (by omega)), fun i hi => up_eq 0 (a6 i (by omega)), fun i hi => up_eq 0 (a7 i (by omega))⟩
theorem DE_up0 {F B : Nat → Int} (h : DE F B) (p : Nat) (hp : p = 33 ∨ p = 59 ∨ p = 90) (h33 : B 33 ≤ 8) (h59 : B 59 ≤ 10) : DE F (up B p 0) := by
  have u33 := up0_le B p 33; have u59 := up0_le B p 59
  refine ⟨fun d hd => ?_, fun r hr => ?_⟩
  · rw [up_n _ _ (by omega), up_n _ _ (by omega)]; exact h.1 d (by omega)
  · rw [up_n _ _ (by omega)]; exact h.2 r (by omega)
theorem XZ_up0 (h : YR S T Y) (hS : SI S Y) (p : Nat) (hp : p = 33 ∨ p = 59 ∨ p = 90) (hB : BI (up T.1 p 0)) : XZ (up T.1 p 0) (lBk S.1 (up S.1.2.1 p 0)) Y := by
  have hb := YR_bi hS
  exact XZ_upd h.1 ⟨by rw [trF_hi _ _ (by omega)]; exact h.1.1.1.1, BE_up0 h.1.1.1.2.1 p, DE_up0 h.1.1.1.2.2 p hp hb.2.1.2 hb.2.2.1.2⟩ (FI_hi h.1.2.1 (by omega)) hB (up_n _ _ (by omega)) (fun k hk => up_n _ _ (by omega))
theorem rel_none (h : YR S T Y) (hS : SI S Y) (x : Int) : RR (noneS S x) (noneM T x) Y := by
  unfold noneS noneM
  by_cases hc : 0 ≤ x ∧ x ≤ 2
  · rw [if_pos hc, if_pos hc]
    have hx : x = 0 ∨ x = 1 ∨ x = 2 := by omega
    have hB := BI_stri h.1.2.2.1 x
    have b := h.1.1.1.2.1
    rcases hx with rfl | rfl | rfl
    · exact ⟨b.1.symm, YR_lump h (XZ_up0 h hS 33 (by decide) hB) (by omega)⟩
    · exact ⟨b.2.2.1.symm, YR_lump h (XZ_up0 h hS 59 (by decide) hB) (by omega)⟩
    · exact ⟨b.2.2.2.1.symm, YR_lump h (XZ_up0 h hS 90 (by decide) hB) (by omega)⟩
  · rw [if_neg hc, if_neg hc]
    exact ⟨rfl, YR_bad h⟩
theorem word_ot (B : Nat → Int) (n : Nat) (R : Nat → Int) {k : Nat} (h : k < 91 ∨ 115 ≤ k) (hn : n < 4) (h90 : k ≠ 90) : wordB B n R k = B k := by
  unfold wordB
  rw [up_n _ _ h90]
  unfold wordN
  rw [if_neg (by omega)]
theorem letN_in {R : Nat → Int} : ∀ n, letN R n = true → ∀ k, k < n → 0 ≤ R k ∧ R k ≤ 25 := by
  intro n
  induction n with
  | zero => intro _ k hk; omega
  | succ n ih =>
    intro h k hk
    unfold letN at h
    rw [Bool.and_eq_true, decide_eq_true_eq] at h
    by_cases hkn : k = n
    · rw [hkn]; exact h.2
    · exact ih h.1 k (by omega)
theorem rel_word (h : YR S T Y) (hS : SI S Y) (R : Nat → Int) : RR (wordS S R) (wordM T R) Y := by
  unfold wordS wordM
  have hb := YR_bi hS
  have h33 := hb.2.1; have h59 := hb.2.2.1; have h90 := hb.2.2.2.1
  obtain ⟨a1, a2, a3, a4, a5, a6, a7⟩ := id h.1.1.1.2.1
  by_cases hc : letN R 6 = true
  · rw [if_pos hc, if_pos hc, a4]
    by_cases hf : S.1.2.1 90 < 4
    · rw [if_pos hf, if_pos hf]
      obtain ⟨n, hn⟩ : ∃ n, n = (S.1.2.1 90).toNat := ⟨_, rfl⟩
      have hn4 : n < 4 := by omega
      rw [← hn]
      have w90 : ∀ B : Nat → Int, wordB B n R 90 = n + 1 := fun B => up_s _ _ _
      refine ⟨rfl, YR_lump h (XZ_upd h.1 ⟨?_, ⟨?_, ?_, ?_, ?_, fun i hi => ?_, fun i hi => ?_, fun i hi => ?_⟩, ?_, fun r hr => ?_⟩ (FI_k h.1.2.1 (fun k hk => word_ot _ n R (by omega) hn4 (by omega))) (BI_word h.1.2.2.1 hn4 (letN_in 6 hc)) (word_ot _ n R (by omega) hn4 (by omega)) (fun k hk => word_ot _ n R (by omega) hn4 (by omega))) (by omega)⟩
      · rw [trF_k (X := T.1) (fun k hk => word_ot _ n R (by omega) hn4 (by omega))]; exact h.1.1.1.1
      · rw [word_ot _ n R (by omega) hn4 (by omega), word_ot _ n R (by omega) hn4 (by omega)]; exact a1
      · rw [word_ot _ n R (by omega) hn4 (by omega), word_ot _ n R (by omega) hn4 (by omega)]; exact a2
      · rw [word_ot _ n R (by omega) hn4 (by omega), word_ot _ n R (by omega) hn4 (by omega)]; exact a3
      · rw [w90, w90]
      · rw [word_ot _ n R (by omega) hn4 (by omega)] at hi
        rw [word_ot _ n R (by omega) hn4 (by omega), word_ot _ n R (by omega) hn4 (by omega)]; exact a5 i hi
      · rw [word_ot _ n R (by omega) hn4 (by omega)] at hi
        rw [word_ot _ n R (by omega) hn4 (by omega), word_ot _ n R (by omega) hn4 (by omega)]; exact a6 i hi
      · rw [w90] at hi
        unfold wordB
        rw [up_n _ _ (by omega), up_n _ _ (by omega)]
        unfold wordN
        by_cases hi2 : 91 + 6 * n ≤ 91 + i ∧ 91 + i < 91 + 6 * n + 6
        · rw [if_pos hi2, if_pos hi2]
        · rw [if_neg hi2, if_neg hi2]; exact a7 i (by omega)
      · intro d hd
        rw [word_ot _ n R (by omega) hn4 (by omega)] at hd
        rw [word_ot _ n R (by omega) hn4 (by omega), word_ot _ n R (by omega) hn4 (by omega)]
        exact h.1.1.1.2.2.1 d hd
      · rw [word_ot _ n R (by omega) hn4 (by omega)] at hr
        rw [word_ot _ n R (by omega) hn4 (by omega)]
        exact h.1.1.1.2.2.2 r hr
    · rw [if_neg hf, if_neg hf]
      exact ⟨rfl, YR_full h⟩
  · rw [if_neg hc, if_neg hc]
    exact ⟨rfl, YR_bad h⟩
theorem rel_type (h : YR S T Y) (c : Int) : RR (typeS S c) (typeM T c) Y := by
  unfold typeS typeM
  obtain ⟨h1, h2, h3, h4, h5, h6, h7⟩ := id h
  by_cases hc : 0 ≤ c ∧ c ≤ 127
  · rw [if_pos hc, if_pos hc, h5, h4]
    by_cases hf : S.2.2.2.2.1 < 150
    · rw [if_pos hf, if_pos hf]
      exact ⟨rfl, h1, h2, h3, rfl, rfl, h6, h7⟩
    · rw [if_neg hf, if_neg hf]
      exact ⟨rfl, YR_full h⟩
  · rw [if_neg hc, if_neg hc]
    exact ⟨rfl, YR_bad h⟩
theorem rel_clear (h : YR S T Y) : RR (S.2.2.2.2.1, yT S S.2.2.2.1 0) (T.2.2.2.2.2.1, (T.1, T.2.1, T.2.2.1, T.2.2.2.1, T.2.2.2.2.1, 0, T.2.2.2.2.2.2)) Y := by
  obtain ⟨h1, h2, h3, h4, h5, h6, h7⟩ := h
  exact ⟨h5.symm, h1, h2, h3, h4, rfl, h6, h7⟩
theorem rel_about (h : YR S T Y) (hS : SI S Y) (f w : Int) : RR (aboutS S f w) (aboutM T f w) Y := by
  unfold aboutS aboutM
  rw [YR_lo h hS (k := 6) (by decide)]
  have hsz := (sizeF_le hS.1.1).2
  by_cases hc : (0 ≤ f ∧ f ≤ S.1.1 6 - 1) ∧ (0 ≤ w ∧ w ≤ 3)
  · rw [if_pos hc, if_pos hc]
    exact RR_same h (YR_lv h hS (by omega)).symm
  · rw [if_neg hc, if_neg hc]
    exact ⟨rfl, YR_bad h⟩
theorem noon_0 {X F : Nat → Int} (h : X 0 = F 0) (y : Int) : noonF X y = noonF F y := by unfold noonF; rw [h]
theorem rel_eats (h : YR S T Y) (hS : SI S Y) (f y : Int) : RR (eatsS S f y) (eatsM T f y) Y := by
  unfold eatsS eatsM
  rw [YR_lo h hS (k := 6) (by decide)]
  have hsz := (sizeF_le hS.1.1).2
  by_cases hc : (0 ≤ f ∧ f ≤ S.1.1 6 - 1) ∧ (0 ≤ y ∧ y ≤ 9999)
  · rw [if_pos hc, if_pos hc, YR_lv h hS (k := 7 + 4 * f.toNat) (by omega), YR_lv h hS (k := 8 + 4 * f.toNat) (by omega), noon_0 (YR_lo h hS (k := 0) (by decide))]
    exact RR_same h rfl
  · rw [if_neg hc, if_neg hc]
    exact ⟨rfl, YR_bad h⟩
theorem YR_sT (h : YR S T Y) (hS : SI S Y) : sizeF T.1 = sizeF S.1.1 := XE_sz h.1.1.1
theorem rel_fields (h : YR S T Y) (hS : SI S Y) : RR (sownF S.1.1, S) (sownF T.1, T) Y := by
  have hs := YR_sz hS
  have hT := YR_sT h hS
  have e1 : sownF (trF T.1) = sownF T.1 := tr_sown (by omega) rfl
  have e2 : sownF (trF S.1.1) = sownF S.1.1 := tr_sown hs rfl
  exact RR_same h (by rw [← e1, ← e2, h.1.1.1.1])
theorem rel_want (h : YR S T Y) (hS : SI S Y) (n : Int) : RR (wantS S n) (wantM T n) Y := by
  unfold wantS wantM
  by_cases hc : 0 ≤ n ∧ n ≤ 200
  · rw [if_pos hc, if_pos hc, ← h.1.1.1.1, first_tr (by rw [YR_sT h hS]; exact YR_sz hS)]
    exact RR_same h rfl
  · rw [if_neg hc, if_neg hc]
    exact ⟨rfl, YR_bad h⟩
theorem rel_held (h : YR S T Y) (hS : SI S Y) (n : Int) : RR (heldS S n) (heldM T n) Y := by
  unfold heldS heldM
  by_cases hc : 0 ≤ n ∧ n ≤ 200
  · rw [if_pos hc, if_pos hc, ← h.1.1.1.1, held_tr (by rw [YR_sT h hS]; exact YR_sz hS)]
    exact RR_same h rfl
  · rw [if_neg hc, if_neg hc]
    exact ⟨rfl, YR_bad h⟩
theorem rel_teachers (h : YR S T Y) (hS : SI S Y) (n : Int) : RR (teachersS S n) (teachersM T n) Y := by
  unfold teachersS teachersM
  by_cases hc : 0 ≤ n ∧ n ≤ 60
  · rw [if_pos hc, if_pos hc, ← h.1.1.1.1, few_tr (by rw [YR_sT h hS]; exact YR_sz hS), YR_sT h hS]
    exact RR_same h rfl
  · rw [if_neg hc, if_neg hc]
    exact ⟨rfl, YR_bad h⟩
theorem rel_net (h : YR S T Y) (hS : SI S Y) (f : Int) : RR (netS S f) (netM T f) Y := by
  unfold netS netM
  rw [YR_lo h hS (k := 6) (by decide)]
  by_cases hc : 0 ≤ f ∧ f ≤ S.1.1 6 - 1
  · rw [if_pos hc, if_pos hc, XE_away h.1.1.1 (YR_sz hS), h.1.1.1.2.1.1, bal_eq h.1.1.1.2.1 _ _ _ (Nat.le_refl _)]
    exact RR_same h rfl
  · rw [if_neg hc, if_neg hc]
    exact ⟨rfl, YR_bad h⟩
theorem rel_status (h : YR S T Y) (w : Int) : RR (statusS S w) (statusM T w) Y := by
  unfold statusS statusM
  obtain ⟨h3, h4, h5⟩ := h.2.2.1
  by_cases h0 : w = 0
  · subst h0; rw [if_pos rfl, if_pos (by decide)]; exact RR_same h h3.symm
  rw [if_neg h0]
  by_cases h1 : w = 1
  · subst h1; rw [if_pos rfl, if_pos (by decide)]; exact RR_same h h4.symm
  rw [if_neg h1]
  by_cases h2 : w = 2
  · subst h2; rw [if_pos rfl, if_pos (by decide)]; exact RR_same h h5.symm
  rw [if_neg h2, if_neg (by omega)]
  exact ⟨rfl, YR_bad h⟩
theorem rel_part (h : YR S T Y) (w : Int) : RR (partS S w) (partM T w) Y := by
  unfold partS partM
  obtain ⟨-, -, -, -, -, h6, h7⟩ := id h
  by_cases hc : 0 ≤ w ∧ w ≤ 1
  · rw [if_pos hc, if_pos hc, h6, h7]; exact RR_same h rfl
  · rw [if_neg hc, if_neg hc]
    exact ⟨rfl, YR_bad h⟩
theorem tal_eq (h : YR S T Y) (hS : SI S Y) {w : Int} (hw : 0 ≤ w ∧ w ≤ 13) : tallyS T.1 T.1 (T.1 115) T.2.2.2.2.2.1 w = tallyS S.1.1 S.1.2.1 S.1.2.2.2.1 S.2.2.2.2.1 w := by
  obtain ⟨a1, a2, a3, a4, -⟩ := h.1.1.1.2.1
  unfold tallyS
  by_cases h7 : w = 7
  · rw [if_pos h7, if_pos h7]; exact a1
  rw [if_neg h7, if_neg h7]
  by_cases h8 : w = 8
  · rw [if_pos h8, if_pos h8]; exact a3
  rw [if_neg h8, if_neg h8]
  by_cases h9 : w = 9
  · rw [if_pos h9, if_pos h9]; exact a4
  rw [if_neg h9, if_neg h9]
  by_cases h10 : w = 10
  · rw [if_pos h10, if_pos h10]; exact YR_lo h hS (by decide)
  rw [if_neg h10, if_neg h10]
  by_cases h11 : w = 11
  · rw [if_pos h11, if_pos h11]; exact YR_lo h hS (by decide)
  rw [if_neg h11, if_neg h11]
  by_cases h12 : w = 12
  · rw [if_pos h12, if_pos h12]; exact h.1.1.2.1
  rw [if_neg h12, if_neg h12]
  by_cases h13 : w = 13
  · rw [if_pos h13, if_pos h13]; exact h.2.2.2.2.1
  rw [if_neg h13, if_neg h13]; exact YR_lo h hS (by omega)
theorem rel_count (h : YR S T Y) (hS : SI S Y) (w : Int) : RR (countS S w) (countM T w) Y := by
  unfold countS countM
  by_cases hc : 0 ≤ w ∧ w ≤ 13
  · rw [if_pos hc, if_pos hc, tal_eq h hS hc]; exact RR_same h rfl
  · rw [if_neg hc, if_neg hc]
    exact ⟨rfl, YR_bad h⟩
theorem talN_eq (h : YR S T Y) (hS : SI S Y) (z : Int) : ∀ k : Nat, k ≤ 14 → talN T.1 T.1 (T.1 115) T.2.2.2.2.2.1 z k = talN S.1.1 S.1.2.1 S.1.2.2.2.1 S.2.2.2.2.1 z k := by
  intro k
  induction k with
  | zero => intro _; rfl
  | succ k ih => intro hk; rw [tal_st, tal_st, ih (by omega), tal_eq h hS (by omega)]
theorem mixB_eq {X B : Nat → Int} (h : BE X B) (z : Int) : mixB X z = mixB B z := by
  obtain ⟨a1, a2, a3, a4, a5, a6, a7⟩ := h
  unfold mixB
  rw [a1, a2, a3, a4, sums_eq _ _ a7, sums_eq _ _ a6, sums_eq _ _ a5]
theorem rel_digest (h : YR S T Y) (hS : SI S Y) : RR (digS S, S) (digM T, T) Y := by
  refine RR_same h ?_
  obtain ⟨-, -, -, -, -, h6, h7⟩ := id h
  unfold digS digM
  rw [h6, h7, talN_eq h hS _ 14 (Nat.le_refl _), YR_sT h hS, mix_sums, mixB_eq h.1.1.1.2.1, sums_eq (X := T.1) (B := S.1.1) _ _ (fun i hi => YR_lv h hS (by omega))]
theorem rel_lots (h : YR S T Y) (hS : SI S Y) (x k : Int) : RR (lotsS S x k) (lotsM T x k) Y := by
  unfold lotsS lotsM
  rw [YR_lo h hS (k := 6) (by decide), YR_sT h hS]
  by_cases hc : (0 ≤ x ∧ x ≤ 999999) ∧ (0 ≤ k ∧ k ≤ S.1.1 6)
  · rw [if_pos hc, if_pos hc]; exact RR_same h rfl
  · rw [if_neg hc, if_neg hc]
    exact ⟨rfl, YR_bad h⟩
theorem rel_liars (h : YR S T Y) (hS : SI S Y) (w : Int) : RR (liarsS S w) (liarsM T w) Y := by
  unfold liarsS liarsM
  rw [YR_sT h hS, h.1.1.1.2.1.2.2.1]
  by_cases hc : 0 ≤ w ∧ w ≤ 1
  · rw [if_pos hc, if_pos hc, few_rel (B := S.1.2.1) _ (YR_sz hS) (alike_eq h.1.1.1.2.1) (alike_all h.1.1.1.2.2 (YR_bi hS) (YR_sz hS) (sizeF_le hS.1.1).2), sure_eq (B := S.1.2.1) (alike_eq h.1.1.1.2.1)]
    exact RR_same h rfl
  · rw [if_neg hc, if_neg hc]
    exact ⟨rfl, YR_bad h⟩
theorem rel_apart (h : YR S T Y) (v w : Int) : RR (apartS S v w) (apartM T v w) Y := by
  unfold apartS apartM
  rw [h.1.1.1.2.1.2.2.2.1]
  by_cases hc : (0 ≤ v ∧ v ≤ S.1.2.1 90 - 1) ∧ (0 ≤ w ∧ w ≤ S.1.2.1 90 - 1)
  · rw [if_pos hc, if_pos hc, ap_BE h.1.1.1.2.1 (by omega) (by omega)]
    exact RR_same h rfl
  · rw [if_neg hc, if_neg hc]
    exact ⟨rfl, YR_bad h⟩
theorem rel_bears (h : YR S T Y) (hS : SI S Y) : RR (bearsS S, S) (bearsM T, T) Y := by
  refine RR_same h ?_
  unfold bearsS bearsM
  have hn := (YR_bi hS).2.2.2.1
  have e := brO_eq h.1.1.1.2.1 (S.1.2.1 90).toNat (Nat.le_refl _)
  have h90 := h.1.1.1.2.1.2.2.2.1
  rw [h90, e]
  have g := near_br S.1.2.1 (n := (S.1.2.1 90).toNat) (by omega)
  generalize nearO S.1.2.1 (S.1.2.1 90).toNat = a at g
  generalize brO S.1.2.1 (S.1.2.1 90).toNat (S.1.2.1 90).toNat = b at g
  rcases g with ⟨g1, g2⟩ | ⟨g1, g2, g3⟩
  · rw [if_pos g1, if_pos g2]
  · subst g1
    rw [if_neg (by omega), if_neg (by omega)]
    by_cases h0 : a = 0
    · subst h0; rfl
    · rw [if_neg h0]; omega
theorem rel_meant (h : YR S T Y) (R : Nat → Int) : RR (meantS S R) (meantM T R) Y := by
  unfold meantS meantM
  rw [h.1.1.1.2.1.2.2.2.1]
  by_cases hc : letN R 6 = true
  · rw [if_pos hc, if_pos hc, nw_eq h.1.1.1.2.1 R _ (Nat.le_refl _)]; exact RR_same h rfl
  · rw [if_neg hc, if_neg hc]
    exact ⟨rfl, YR_bad h⟩
theorem rel_meet (h : YR S T Y) (hS : SI S Y) (z r : Int) : RR (meetS S z r) (meetM T z r) Y := by
  unfold meetS meetM
  by_cases hc : (2 ≤ z ∧ z ≤ 70) ∧ (0 ≤ r ∧ r ≤ z - 1)
  · rw [if_pos hc, if_pos hc, XE_away h.1.1.1 (YR_sz hS), YR_lo h hS (k := 0) (by decide)]; exact RR_same h rfl
  · rw [if_neg hc, if_neg hc]
    exact ⟨rfl, YR_bad h⟩
theorem rel_toldOn (h : YR S T Y) (w n p : Int) : RR (toldS S w n p) (toldM T w n p) Y := by
  unfold toldS toldM
  rw [h.1.1.1.2.1.2.2.2.1]
  by_cases hc : (0 ≤ w ∧ w ≤ S.1.2.1 90 - 1) ∧ (0 ≤ n ∧ n ≤ 30) ∧ (0 ≤ p ∧ p ≤ 5)
  · rw [if_pos hc, if_pos hc, h.1.1.1.2.1.2.2.2.2.2.2 (6 * w.toNat + p.toNat) (by omega)]; exact RR_same h rfl
  · rw [if_neg hc, if_neg hc]
    exact ⟨rfl, YR_bad h⟩
theorem rel_cleared (h : YR S T Y) (hS : SI S Y) : RR (payF S.1.1 S.1.2.1, S) (payN T.1, T) Y := RR_same h (pay_rel h.1.1.1 hS.1.1 (YR_bi hS)).symm
theorem rel_undo (h : YR S T Y) (hS : SI S Y) : RR (undoS S) (undoM T) Y := by
  unfold undoS undoM
  rw [h.1.1.2.1]
  have h4 := hS.1.2.2.2.1
  by_cases hc : 0 < S.1.2.2.2.1
  · rw [if_pos hc, if_neg (by omega)]
    exact ⟨rfl, YR_lump h ⟨XL_back h.1.1 hS.1 hS.2.2.2.1 hc, ZX_back h.1.2 (by rw [h.1.1.2.1]; exact hc)⟩ (by omega)⟩
  · rw [if_neg hc, if_pos (by omega)]
    exact ⟨rfl, YR_no h⟩
theorem rel_pass (h : YR S T Y) (hS : SI S Y) (n : Int) : RR (passS S n) (passM T n) (Y + 20) := by
  unfold passS passM
  by_cases hc : 1 ≤ n ∧ n ≤ 20
  · rw [if_pos hc, if_pos hc]
    obtain ⟨p1, p2, p3, p4⟩ := pass_rel h.1.1 h.1.2 hS.1 n.toNat
    exact ⟨p1, YR_lump h ⟨p2, ZX_le p3 (by omega)⟩ (by omega)⟩
  · rw [if_neg hc, if_neg hc]
    exact ⟨rfl, YR_le (YR_bad h) (by omega)⟩
end RELS

