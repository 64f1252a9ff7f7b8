/-! the payments: the two tables agree on sets whose sum is nought -/
section PAY2
variable {net : Nat → Int} {z : Nat}
theorem sumN_hi {s : Nat} (hs : s < 2 ^ z) : ∀ d, sumN net s (z + d) = sumN net s z := by
  intro d
  induction d with
  | zero => rfl
  | succ d ih =>
    show sumN net s (z + d) + (if s.testBit (z + d) = true then net (z + d) else 0) = _
    rw [ih, if_neg (fun h => absurd (bit_lt hs h) (by omega)), Int.add_zero]
theorem sumN_S (hz : z ≤ 6) {s : Nat} (hs : s < 2 ^ z) : sumN net s z = sumS net s := by
  have h := sumN_hi (net := net) hs (6 - z)
  rw [show z + (6 - z) = 6 by omega] at h
  rw [← h]
  show 0 + (if s.testBit 0 = true then net 0 else 0) + (if s.testBit 1 = true then net 1 else 0) + (if s.testBit 2 = true then net 2 else 0) + (if s.testBit 3 = true then net 3 else 0) + (if s.testBit 4 = true then net 4 else 0) + (if s.testBit 5 = true then net 5 else 0) = _
  rw [Int.zero_add]
  rfl
theorem sumS_0 : sumS net 0 = 0 := by unfold sumS; simp
theorem sub_b {s p : Nat} (h : p &&& s = p) (i : Nat) (x : Int) : (if (s ^^^ p).testBit i = true then x else 0) = (if s.testBit i = true then x else 0) - (if p.testBit i = true then x else 0) := by
  have c : p.testBit i = (p.testBit i && s.testBit i) := by rw [← Nat.testBit_and, h]
  rw [Nat.testBit_xor]
  revert c
  cases s.testBit i <;> cases p.testBit i <;> simp
theorem sumS_xor {s p : Nat} (h : p &&& s = p) : sumS net (s ^^^ p) = sumS net s - sumS net p := by
  unfold sumS
  rw [sub_b h 0, sub_b h 1, sub_b h 2, sub_b h 3, sub_b h 4, sub_b h 5]
  omega
theorem G_ge (hz : z ≤ 6) {s q : Nat} (hs : s < 2 ^ z) (h0 : q ≠ 0) (hq : q &&& s = q) (hsum : sumS net q = 0) : tabG net z (s ^^^ q) (s ^^^ q) + 1 ≤ tabG net z s s := by
  have h64 := p64 hz
  have hle : q ≤ s := by rw [← hq]; exact Nat.and_le_right
  obtain ⟨r, rfl⟩ : ∃ r, s = r + 1 := ⟨s - 1, by omega⟩
  have st := (sub_tab ⟨r + 1, by omega⟩ ⟨q, by omega⟩ hq (by show 1 ≤ q; omega)).2.1
  have h := (gr_ge (net := net) (z := z) (tabG net z r) (s := r + 1) (by omega) 64 (r + 1) (-1000000) (by omega) (Nat.le_refl _) (Nat.and_self _)).2 q h0 hq hle (by rw [sumN_S hz (by omega)]; exact hsum)
  rw [tabG_stb net z r _ (by have : (r + 1) ^^^ q < r + 1 := st; omega)] at h
  show _ ≤ up (tabG net z r) (r + 1) _ (r + 1)
  rw [up_s]; exact h
theorem G_ex (hz : z ≤ 6) {s : Nat} (hs : s < 2 ^ z) (h1 : 1 ≤ s) : tabG net z s s = -1000000 ∨ ∃ q, q ≠ 0 ∧ q &&& s = q ∧ sumS net q = 0 ∧ (s ^^^ q) < s ∧ tabG net z s s = tabG net z (s ^^^ q) (s ^^^ q) + 1 := by
  have h64 := p64 hz
  obtain ⟨r, rfl⟩ : ∃ r, s = r + 1 := ⟨s - 1, by omega⟩
  have e : tabG net z (r + 1) (r + 1) = grI net z (tabG net z r) (r + 1) 64 (r + 1) (-1000000) := by
    show up (tabG net z r) (r + 1) _ (r + 1) = _
    rw [up_s]
  rw [e]
  rcases gr_ex (net := net) (z := z) (tabG net z r) (s := r + 1) (by omega) 64 (r + 1) (-1000000) (by omega) (Nat.le_refl _) (Nat.and_self _) with h | h | ⟨q, h0, hq, hsum, h⟩
  · exact Or.inl h
  · exact Or.inl h
  · have hle : q ≤ r + 1 := by rw [← hq]; exact Nat.and_le_right
    have st : (r + 1) ^^^ q < r + 1 := (sub_tab ⟨r + 1, by omega⟩ ⟨q, by omega⟩ hq (by show 1 ≤ q; omega)).2.1
    rw [tabG_stb net z r _ (by omega)] at h
    exact Or.inr ⟨q, h0, hq, by rw [← sumN_S hz (by omega)]; exact hsum, st, h⟩
theorem G_up (hz : z ≤ 6) : ∀ s, s < 2 ^ z → (sumS net s = 0 → tabG net z s s ≤ tab net z s s) ∧ (sumS net s ≠ 0 → tabG net z s s ≤ -1000000 + (s : Int)) := by
  have h64 := p64 hz
  intro s
  induction s using Nat.strongRecOn with
  | _ s ih =>
    intro hs
    by_cases h0 : s = 0
    · subst h0
      exact ⟨fun _ => Int.le_refl _, fun h => absurd sumS_0 h⟩
    · have hT := (tab_in net hz s (by omega) s).1
      rcases G_ex (net := net) hz hs (by omega) with h | ⟨q, q0, hq, hsum, hlt, h⟩
      · rw [h]; exact ⟨fun _ => by omega, fun _ => by omega⟩
      · have hx := sumS_xor (net := net) hq
        have hi := ih (s ^^^ q) hlt (by omega)
        rw [h]
        refine ⟨fun hz0 => ?_, fun hn => ?_⟩
        · have h2 := T_split (net := net) hz hs hq q0 hz0
          have h3 := hi.1 (by omega)
          omega
        · have h3 := hi.2 (by omega)
          omega
theorem T_lo (hz : z ≤ 6) : ∀ s, s < 2 ^ z → ∃ q, q &&& s = q ∧ sumS net q = 0 ∧ tab net z s s ≤ tabG net z q q := by
  have h64 := p64 hz
  intro s
  induction s using Nat.strongRecOn with
  | _ s ih =>
    intro hs
    by_cases h0 : s = 0
    · subst h0
      exact ⟨0, by decide, sumS_0, Int.le_refl _⟩
    · obtain ⟨r, rfl⟩ : ∃ r, s = r + 1 := ⟨s - 1, by omega⟩
      rw [T_st hz r (by omega)]
      have key : ∃ q, q &&& (r + 1) = q ∧ sumS net q = 0 ∧ q ≠ r + 1 ∧ mgb (fun j => tab net z j j) (r + 1) z ≤ tabG net z q q := by
        rcases mgb_ex (fun j => tab net z j j) (r + 1) z with h | ⟨f, hf, hb, h⟩
        · exact ⟨0, Nat.zero_and _, sumS_0, by omega, by rw [h]; exact Int.le_refl _⟩
        · have s1 := su_1 ⟨r + 1, by omega⟩ ⟨f, by omega⟩ hb
          have s1a : (r + 1) ^^^ 2 ^ f < r + 1 := s1.1
          have s1b : ((r + 1) ^^^ 2 ^ f) &&& (r + 1) = (r + 1) ^^^ 2 ^ f := s1.2
          obtain ⟨q, q1, q2, q3⟩ := ih ((r + 1) ^^^ 2 ^ f) s1a (by omega)
          refine ⟨q, ?_, q2, ?_, by rw [h]; exact q3⟩
          · rw [← q1, Nat.and_assoc, s1b]
          · have : q ≤ (r + 1) ^^^ 2 ^ f := by rw [← q1]; exact Nat.and_le_right
            omega
      obtain ⟨q, q1, q2, q3, q4⟩ := key
      by_cases hsum : sumS net (r + 1) = 0
      · have hle : q ≤ r + 1 := by rw [← q1]; exact Nat.and_le_right
        obtain ⟨x1, x2, -, x4⟩ := su_4 ⟨r + 1, by omega⟩ ⟨q, by omega⟩ q1
        have hg := G_ge (net := net) hz hs (x4 q3) x1 (by rw [sumS_xor q1]; omega)
        simp only at x2
        simp only [x2] at hg
        refine ⟨r + 1, Nat.and_self _, hsum, ?_⟩
        have : iz (sumS net (r + 1)) = 1 := by rw [hsum]; rfl
        omega
      · refine ⟨q, q1, q2, ?_⟩
        have : iz (sumS net (r + 1)) = 0 := if_neg hsum
        omega
theorem T_G (hz : z ≤ 6) {s : Nat} (hs : s < 2 ^ z) (hsum : sumS net s = 0) : tab net z s s = tabG net z s s := by
  have h64 := p64 hz
  have h1 := (G_up (net := net) hz s hs).1 hsum
  obtain ⟨q, q1, q2, q3⟩ := T_lo (net := net) hz s hs
  by_cases hqs : q = s
  · rw [hqs] at q3; omega
  · have hle : q ≤ s := by rw [← q1]; exact Nat.and_le_right
    obtain ⟨x1, x2, -, x4⟩ := su_4 ⟨s, by omega⟩ ⟨q, by omega⟩ q1
    have hg := G_ge (net := net) hz hs (x4 hqs) x1 (by rw [sumS_xor q1]; omega)
    simp only at x2
    simp only [x2] at hg
    omega
end PAY2

