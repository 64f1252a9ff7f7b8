/-! the payments: the class's table and the reference's -/
theorem tab_stb (net : Nat → Int) (z : Nat) : ∀ s j, j ≤ s → tab net z s j = tab net z j j := by
  intro s
  induction s with
  | zero => intro j hj; rw [show j = 0 by omega]
  | succ s ih =>
    intro j hj
    by_cases h : j = s + 1
    · rw [h]
    · show up (tab net z s) (s + 1) _ j = _
      rw [up_n _ _ h]; exact ih j (by omega)
theorem bit_lt {s z f : Nat} (h : s < 2 ^ z) (hb : s.testBit f = true) : f < z := by
  by_cases hf : f < z
  · exact hf
  · have h2 : s < 2 ^ f := Nat.lt_of_lt_of_le h (Nat.pow_le_pow_right (by decide) (by omega))
    rw [Nat.testBit_lt_two_pow h2] at hb
    cases hb
theorem mgb_ge (tb : Nat → Int) (s f : Nat) (hb : s.testBit f = true) : ∀ z, f < z → tb (s ^^^ 2 ^ f) ≤ mgb tb s z := by
  intro z
  induction z with
  | zero => intro h; exact absurd h (by omega)
  | succ z ih =>
    intro h
    by_cases hz : f = z
    · subst hz
      unfold mgb
      rw [if_pos hb]; omega
    · have := ih (by omega)
      unfold mgb
      split <;> omega
theorem mgb_ex (tb : Nat → Int) (s : Nat) : ∀ z, mgb tb s z = 0 ∨ ∃ f, f < z ∧ s.testBit f = true ∧ mgb tb s z = tb (s ^^^ 2 ^ f) := by
  intro z
  induction z with
  | zero => exact Or.inl rfl
  | succ z ih =>
    have keep : mgb tb s z = 0 ∨ ∃ f, f < z + 1 ∧ s.testBit f = true ∧ mgb tb s z = tb (s ^^^ 2 ^ f) := by
      rcases ih with h | ⟨f, h1, h2, h3⟩
      · exact Or.inl h
      · exact Or.inr ⟨f, by omega, h2, h3⟩
    by_cases hb : s.testBit z = true
    · have e : mgb tb s (z + 1) = max (mgb tb s z) (tb (s ^^^ 2 ^ z)) := by show (if s.testBit z = true then _ else _) = _; rw [if_pos hb]
      rw [e]
      by_cases hm : mgb tb s z ≤ tb (s ^^^ 2 ^ z)
      · exact Or.inr ⟨z, by omega, hb, Int.max_eq_right hm⟩
      · rw [Int.max_eq_left (by omega)]; exact keep
    · have e : mgb tb s (z + 1) = mgb tb s z := by show (if s.testBit z = true then _ else _) = _; rw [if_neg hb]
      rw [e]; exact keep
theorem su_1 : ∀ s : Fin 64, ∀ f : Fin 6, s.val.testBit f.val = true → (s.val ^^^ 2 ^ f.val) < s.val ∧ (s.val ^^^ 2 ^ f.val) &&& s.val = s.val ^^^ 2 ^ f.val := by decide +kernel
theorem su_2 : ∀ s q : Fin 64, q.val &&& s.val = q.val → q.val ≠ s.val → ∃ f : Fin 6, s.val.testBit f.val = true ∧ q.val &&& (s.val ^^^ 2 ^ f.val) = q.val := by decide +kernel
theorem su_3 : ∀ s p : Fin 64, p.val &&& s.val = p.val → p.val ≠ 0 → ∃ f : Fin 6, s.val.testBit f.val = true ∧ (s.val ^^^ p.val) &&& (s.val ^^^ 2 ^ f.val) = s.val ^^^ p.val := by decide +kernel
theorem su_4 : ∀ s p : Fin 64, p.val &&& s.val = p.val → (s.val ^^^ p.val) &&& s.val = s.val ^^^ p.val ∧ s.val ^^^ (s.val ^^^ p.val) = p.val ∧ p.val ≤ s.val ∧ (p.val ≠ s.val → s.val ^^^ p.val ≠ 0) := by decide +kernel
theorem su_5 : ∀ s p q : Fin 64, p.val &&& s.val = p.val → q.val &&& s.val = q.val → q.val < p.val → q.val ≤ (p.val - 1) &&& s.val := by decide +kernel
section PAY
variable {net : Nat → Int} {z : Nat}
def iz (x : Int) : Int := if x = 0 then 1 else 0
theorem T_st (hz : z ≤ 6) (s : Nat) (hs : s + 1 < 64) : tab net z (s + 1) (s + 1) = mgb (fun j => tab net z j j) (s + 1) z + iz (sumS net (s + 1)) := by
  show up (tab net z s) (s + 1) (mgb (tab net z s) (s + 1) z + (if sumS net (s + 1) = 0 then 1 else 0)) (s + 1) = _
  rw [up_s, mgb_congr (tb2 := fun j => tab net z j j) (fun j hj => tab_stb net z s j (by omega)) ⟨by omega, hs⟩ z hz]
  rfl
theorem p64 (hz : z ≤ 6) : 2 ^ z ≤ 64 := (show 2 ^ z ≤ 2 ^ 6 from Nat.pow_le_pow_right (by decide) hz)
theorem T_ge (hz : z ≤ 6) {s f : Nat} (hs : s < 2 ^ z) (hb : s.testBit f = true) : tab net z (s ^^^ 2 ^ f) (s ^^^ 2 ^ f) + iz (sumS net s) ≤ tab net z s s := by
  have h64 := p64 hz
  have hf := bit_lt hs hb
  obtain ⟨r, rfl⟩ : ∃ r, s = r + 1 := by
    cases s with
    | zero => rw [Nat.zero_testBit] at hb; cases hb
    | succ r => exact ⟨r, rfl⟩
  rw [T_st hz r (by omega)]
  have := mgb_ge (fun j => tab net z j j) (r + 1) f hb z hf
  try simp only at this
  omega
theorem iz_in (x : Int) : 0 ≤ iz x ∧ iz x ≤ 1 := by unfold iz; split <;> omega
theorem T_mono (hz : z ≤ 6) : ∀ s, s < 2 ^ z → ∀ q, q &&& s = q → tab net z q q ≤ tab net z s s := by
  have h64 := p64 hz
  intro s
  induction s using Nat.strongRecOn with
  | _ s ih =>
    intro hs q hq
    by_cases hqs : q = s
    · rw [hqs]; exact Int.le_refl _
    · have hle : q ≤ s := by rw [← hq]; exact Nat.and_le_right
      obtain ⟨f, hf, hq2⟩ := su_2 ⟨s, by omega⟩ ⟨q, by omega⟩ hq hqs
      have h1 := su_1 ⟨s, by omega⟩ f hf
      have h2 := ih (s ^^^ 2 ^ f.val) h1.1 (by have := h1.1; simp only at this; omega) q hq2
      have h3 := T_ge (net := net) hz hs hf
      have h4 := iz_in (sumS net s)
      try simp only at h3 h2
      omega
theorem T_split (hz : z ≤ 6) {s p : Nat} (hs : s < 2 ^ z) (hp : p &&& s = p) (h0 : p ≠ 0) (hsum : sumS net s = 0) : tab net z (s ^^^ p) (s ^^^ p) + 1 ≤ tab net z s s := by
  have h64 := p64 hz
  have hle : p ≤ s := by rw [← hp]; exact Nat.and_le_right
  obtain ⟨f, hf, hq⟩ := su_3 ⟨s, by omega⟩ ⟨p, by omega⟩ hp h0
  have h1 := su_1 ⟨s, by omega⟩ f hf
  have h2 := T_mono (net := net) hz (s ^^^ 2 ^ f.val) (by have := h1.1; simp only at this; omega) _ hq
  have h3 := T_ge (net := net) hz hs hf
  rw [hsum] at h3
  have e1 : iz 0 = 1 := rfl
  rw [e1] at h3
  try simp only at h3 h2
  omega
end PAY


