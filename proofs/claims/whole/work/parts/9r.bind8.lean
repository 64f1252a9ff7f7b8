/-! the chance of no want: the class's way down is the reference's sum -/
theorem popW_2 : ∀ m : Fin 256, popW 30 (2 * m.val) = popW 30 m.val ∧ popW 30 (2 * m.val + 1) = popW 30 m.val + 1 := by decide +kernel
theorem sumC_st (p : Int) (n k : Nat) (N : Nat → Int) (s : Nat) : sumC p n k N (s + 1) = sumC p n k N s + (if fedR s n 0 N = true then p ^ popW 30 s * (10 - p) ^ (k - popW 30 s) else 0) := rfl
theorem fed_st (s n j : Nat) (T : Nat → Int) : fedR s (n + 1) j T = if noonF T (T 1) = true then (if wantF T (s.testBit j) = 0 then fedR s n (j + 1) (goF T (s.testBit j)) else false) else (if wantF T false = 0 then fedR s n j (goF T false) else false) := rfl
theorem fed_sh (s : Nat) : ∀ (n j : Nat) (T : Nat → Int), fedR s n (j + 1) T = fedR (s / 2) n j T := by
  intro n
  induction n with
  | zero => intro j T; rfl
  | succ n ih =>
    intro j T
    rw [fed_st, fed_st, Nat.testBit_succ, ih, ih]
theorem sum_nn (p : Int) (y k : Nat) {T : Nat → Int} (h : ¬ noonF T (T 1) = true) : ∀ m, sumC p (y + 1) k T m = if wantF T false = 0 then sumC p y k (goF T false) m else 0 := by
  intro m
  induction m with
  | zero =>
    show (0 : Int) = if wantF T false = 0 then 0 else 0
    split <;> rfl
  | succ m ih =>
    rw [sumC_st, ih, fed_st, if_neg h]
    by_cases hw : wantF T false = 0
    · rw [if_pos hw, if_pos hw, if_pos hw, sumC_st]
    · rw [if_neg hw, if_neg hw, if_neg hw, if_neg (by decide)]; rfl
theorem sum_no (p : Int) (y : Nat) {k : Nat} (hk : k ≤ 7) {T : Nat → Int} (h : noonF T (T 1) = true) : ∀ m, m ≤ 2 ^ k → sumC p (y + 1) (k + 1) T (2 * m) = (if wantF T true = 0 then p * sumC p y k (goF T true) m else 0) + (if wantF T false = 0 then (10 - p) * sumC p y k (goF T false) m else 0) := by
  intro m
  induction m with
  | zero =>
    intro _
    show (0 : Int) = (if wantF T true = 0 then p * 0 else 0) + (if wantF T false = 0 then (10 - p) * 0 else 0)
    rw [Int.mul_zero, Int.mul_zero]
    split <;> split <;> rfl
  | succ m ih =>
    intro hm
    have hk2 : 2 ^ k ≤ 128 := Nat.pow_le_pow_right (by decide : 2 > 0) hk
    obtain ⟨q0, q1⟩ := popW_2 ⟨m, by omega⟩
    replace q0 : popW 30 (2 * m) = popW 30 m := q0
    replace q1 : popW 30 (2 * m + 1) = popW 30 m + 1 := q1
    have hP := popW_k (s := m) (k := k) (by omega) (by omega)
    rw [show 2 * (m + 1) = 2 * m + 1 + 1 by omega, sumC_st, sumC_st, ih (by omega), sumC_st, sumC_st, q0, q1]
    generalize popW 30 m = Pm at hP ⊢
    have b0 : Nat.testBit (2 * m) 0 = false := by rw [Nat.testBit_zero]; exact decide_eq_false (by omega)
    have b1 : Nat.testBit (2 * m + 1) 0 = true := by rw [Nat.testBit_zero]; exact decide_eq_true (by omega)
    have f0 : fedR (2 * m) (y + 1) 0 T = if wantF T false = 0 then fedR m y 0 (goF T false) else false := by rw [fed_st, if_pos h, b0, fed_sh, show 2 * m / 2 = m by omega]
    have f1 : fedR (2 * m + 1) (y + 1) 0 T = if wantF T true = 0 then fedR m y 0 (goF T true) else false := by rw [fed_st, if_pos h, b1, fed_sh, show (2 * m + 1) / 2 = m by omega]
    have w0 : p ^ Pm * (10 - p) ^ (k + 1 - Pm) = (10 - p) * (p ^ Pm * (10 - p) ^ (k - Pm)) := by
      rw [show k + 1 - Pm = (k - Pm) + 1 by omega, Int.pow_succ, ← Int.mul_assoc, Int.mul_comm]
    have w1 : p ^ (Pm + 1) * (10 - p) ^ (k + 1 - (Pm + 1)) = p * (p ^ Pm * (10 - p) ^ (k - Pm)) := by
      rw [show k + 1 - (Pm + 1) = k - Pm by omega, Int.pow_succ, Int.mul_comm (p ^ Pm) p, Int.mul_assoc]
    rw [f0, f1, w0, w1]
    generalize p ^ Pm * (10 - p) ^ (k - Pm) = w
    generalize sumC p y k (goF T true) m = a
    generalize sumC p y k (goF T false) m = b
    generalize fedR m y 0 (goF T true) = g1
    generalize fedR m y 0 (goF T false) = g0
    by_cases h1 : wantF T true = 0
    · rw [if_pos h1, if_pos h1, if_pos h1]
      by_cases h0 : wantF T false = 0
      · rw [if_pos h0, if_pos h0, if_pos h0]
        cases g0 <;> cases g1 <;> simp only [if_true, if_false, Int.mul_add, Int.add_zero, Bool.false_eq_true] <;> omega
      · rw [if_neg h0, if_neg h0, if_neg h0]
        cases g1 <;> simp only [if_true, if_false, Int.mul_add, Int.add_zero, Bool.false_eq_true]
    · rw [if_neg h1, if_neg h1, if_neg h1]
      by_cases h0 : wantF T false = 0
      · rw [if_pos h0, if_pos h0, if_pos h0]
        cases g0 <;> simp only [if_true, if_false, Int.mul_add, Int.add_zero, Int.zero_add, Bool.false_eq_true]
      · rw [if_neg h0, if_neg h0, if_neg h0]
        simp only [if_false, Int.add_zero, Bool.false_eq_true]
theorem want_nn (T : Nat → Int) (b : Bool) : 0 ≤ wantF T b := by
  show 0 ≤ max 0 _
  omega
theorem noons_nn (T : Nat → Int) : ∀ y, 0 ≤ noonsF T y := by
  intro y
  induction y with
  | zero => exact Int.le_refl _
  | succ y ih => rw [noons_st]; split <;> omega
theorem calm_sum (p : Int) : ∀ (y : Nat) (T : Nat → Int) (k : Nat), noonsF T y = (k : Int) → k ≤ 8 → calmR p y T = sumC p y k T (2 ^ k) := by
  intro y
  induction y with
  | zero =>
    intro T k hk _
    have hk0 : k = 0 := by
      have : (0 : Int) = k := hk
      omega
    subst hk0
    show (1 : Int) = 0 + (if true = true then p ^ popW 30 0 * (10 - p) ^ (0 - popW 30 0) else 0)
    rw [if_pos rfl, popW_0]
    show (1 : Int) = 0 + p ^ 0 * (10 - p) ^ 0
    rw [Int.pow_zero, Int.pow_zero]
    rfl
  | succ y ih =>
    intro T k hk hk8
    show (if noonF T (T 1) = true then (if wantF T true = 0 then p * calmR p y (goF T true) else 0) + (if wantF T false = 0 then (10 - p) * calmR p y (goF T false) else 0) else if 0 < wantF T false then 0 else calmR p y (goF T false)) = _
    by_cases hn : noonF T (T 1) = true
    · rw [if_pos hn]
      have e1 := noons_go T true y
      have e0 := noons_go T false y
      rw [if_pos hn, hk] at e1 e0
      have n0 := noons_nn (goF T true) y
      obtain ⟨c, hc⟩ : ∃ c, k = c + 1 := ⟨k - 1, by omega⟩
      subst hc
      rw [ih (goF T true) c (by omega) (by omega), ih (goF T false) c (by omega) (by omega), show 2 ^ (c + 1) = 2 * 2 ^ c by rw [Nat.pow_succ, Nat.mul_comm], sum_no p y (by omega) hn _ (Nat.le_refl _)]
    · rw [if_neg hn, sum_nn p y k hn]
      have e0 := noons_go T false y
      rw [if_neg hn, hk] at e0
      have w0 := want_nn T false
      by_cases hw : wantF T false = 0
      · rw [if_neg (by omega), if_pos hw]
        exact ih _ k (by omega) hk8
      · rw [if_pos (by omega), if_neg hw]
theorem fed_tr (s : Nat) : ∀ (n j : Nat) {F : Nat → Int}, sizeF F ≤ 6 → fedR s n j (trF F) = fedR s n j F := by
  intro n
  induction n with
  | zero => intro j F _; rfl
  | succ n ih =>
    intro j F hs
    have e1 : trF F 1 = F 1 := trF_a F (by decide) hs
    have e2 : ∀ z, noonF (trF F) z = noonF F z := fun z => tr_noon _ F z
    have e3 : ∀ b, goF (trF F) b = trF (goF F b) := fun b => (trF_go hs b).symm
    have e4 : ∀ b, sizeF (goF F b) ≤ 6 := fun b => by rw [sz_go]; exact hs
    rw [fed_st, fed_st, e1, e2, trF_want hs, trF_want hs, e3, e3, ih _ (e4 _), ih _ (e4 _)]
theorem sum_tr (p : Int) (n k : Nat) {F : Nat → Int} (hs : sizeF F ≤ 6) : ∀ m, sumC p n k (trF F) m = sumC p n k F m := by
  intro m
  induction m with
  | zero => rfl
  | succ m ih => rw [sumC_st, sumC_st, ih, fed_tr m n 0 hs]
section RELS
variable {S : YS} {T : RS} {Y : Int}
theorem ten_8 {k : Nat} (hk : k ≤ 8) : (0 : Int) ≤ 10 ^ k ∧ (10 : Int) ^ k ≤ 100000000 := by
  rcases (show k = 0 ∨ k = 1 ∨ k = 2 ∨ k = 3 ∨ k = 4 ∨ k = 5 ∨ k = 6 ∨ k = 7 ∨ k = 8 by omega) with rfl | rfl | rfl | rfl | rfl | rfl | rfl | rfl | rfl <;> decide
theorem noons_eq (h : YR S T Y) (n : Nat) : noonsF T.1 n = noonsF S.1.1 n := by
  rw [← tr_noons (sizeF T.1) T.1 n, ← tr_noons (sizeF S.1.1) S.1.1 n]
  show noonsF (trF T.1) n = noonsF (trF S.1.1) n
  rw [h.1.1.1.1]
theorem calm_eq (h : YR S T Y) (hS : SI S Y) (p : Int) {n : Nat} (h8 : noonsF S.1.1 n ≤ 8) : sumC p n (noonsF T.1 n).toNat T.1 (2 ^ (noonsF T.1 n).toNat) = calmR p n (trF S.1.1) := by
  have n0 := noons_nn S.1.1 n
  have e : noonsF (trF S.1.1) n = noonsF S.1.1 n := tr_noons _ _ _
  rw [noons_eq h n, calm_sum p n (trF S.1.1) (noonsF S.1.1 n).toNat (by rw [e]; omega) (by omega), ← h.1.1.1.1, sum_tr p n _ (by rw [YR_sT h hS]; exact YR_sz hS)]
theorem sum_in (h : YR S T Y) (hS : SI S Y) (n p : Int) : (0 ≤ n ∧ n ≤ 60) ∧ (0 ≤ p ∧ p ≤ 10) → noonsF T.1 n.toNat ≤ 8 → 0 ≤ sumC p n.toNat (noonsF T.1 n.toNat).toNat T.1 (2 ^ (noonsF T.1 n.toNat).toNat) ∧ sumC p n.toNat (noonsF T.1 n.toNat).toNat T.1 (2 ^ (noonsF T.1 n.toNat).toNat) ≤ 1000000000 := by
  intro hc h8
  rw [noons_eq h] at h8
  rw [calm_eq h hS p h8]
  have n0 := noons_nn S.1.1 n.toNat
  have hcal := calm_in hc.2 n.toNat (trF S.1.1)
  have e : noonsF (trF S.1.1) n.toNat = noonsF S.1.1 n.toNat := tr_noons _ _ _
  rw [e] at hcal
  have ht := ten_8 (k := (noonsF S.1.1 n.toNat).toNat) (by omega)
  exact ⟨hcal.1, by omega⟩
theorem rel_chance (h : YR S T Y) (hS : SI S Y) (n p : Int) : RR (chanceS S n p) (chanceM T n p) Y := by
  unfold chanceS chanceM
  by_cases hc : (0 ≤ n ∧ n ≤ 60) ∧ (0 ≤ p ∧ p ≤ 10)
  · rw [if_pos hc, if_pos hc, noons_eq h]
    by_cases h8 : noonsF S.1.1 n.toNat ≤ 8
    · rw [if_pos h8, if_pos h8, ← noons_eq h, calm_eq h hS p h8, noons_eq h]
      have n0 := noons_nn S.1.1 n.toNat
      have hcal := calm_in hc.2 n.toNat (trF S.1.1)
      have ht := ten_8 (k := (noonsF S.1.1 n.toNat).toNat) (by omega)
      have hg := gcdR_gI 27 100 (calmR p n.toNat (trF S.1.1)) (10 ^ (noonsF S.1.1 n.toNat).toNat) hcal.1 ht.1 (Int.lt_of_le_of_lt ht.2 (by decide)) (by decide)
      obtain ⟨h1, h2, h3, h4, h5, h6, h7⟩ := id h
      refine ⟨rfl, h1, h2, h3, h4, h5, ?_, ?_⟩
      · show _ / gI _ _ = _ / gcdR 100 _ _
        rw [hg]
      · show _ / gI _ _ = _ / gcdR 100 _ _
        rw [hg]
    · rw [if_neg h8, if_neg h8]
      exact ⟨rfl, YR_no h⟩
  · rw [if_neg hc, if_neg hc]
    exact ⟨rfl, YR_bad h⟩
end RELS

