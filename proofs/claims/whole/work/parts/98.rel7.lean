/-! the payments are one -/
theorem pop_or : ∀ a : Fin 64, ∀ f : Fin 6, a.val < 2 ^ f.val → popW 30 (a.val ||| 2 ^ f.val) = popW 30 a.val + 1 := by decide +kernel
def zc (net : Nat → Int) : Nat → Nat
  | 0 => 0
  | k + 1 => zc net k + (if net k = 0 then 1 else 0)
def addZ (net : Nat → Int) (M : Nat) : Nat → Nat
  | 0 => M
  | k + 1 => if net k = 0 then addZ net M k ^^^ 2 ^ k else addZ net M k
section PAY4
variable {net : Nat → Int} {z : Nat}
theorem mkS_b : ∀ k i, (mkS net k).testBit i = true ↔ i < k ∧ net i ≠ 0 := by
  intro k
  induction k with
  | zero => intro i; show (0 : Nat).testBit i = true ↔ (i < 0 ∧ net i ≠ 0); rw [Nat.zero_testBit]; exact ⟨fun h => (by cases h), fun h => absurd h.1 (by omega)⟩
  | succ k ih =>
    intro i
    have e : mkS net (k + 1) = mkS net k ||| (if net k = 0 then 0 else 2 ^ k) := rfl
    rw [e, Nat.testBit_or, Bool.or_eq_true, ih i]
    by_cases hk : net k = 0
    · rw [if_pos hk, Nat.zero_testBit]
      constructor
      · intro h
        rcases h with h | h
        · exact ⟨by omega, h.2⟩
        · cases h
      · intro h
        refine Or.inl ⟨?_, h.2⟩
        by_cases hik : i = k
        · exact absurd (hik ▸ hk) h.2
        · omega
    · rw [if_neg hk, Nat.testBit_two_pow, decide_eq_true_eq]
      constructor
      · intro h
        rcases h with h | h
        · exact ⟨by omega, h.2⟩
        · subst h; exact ⟨by omega, hk⟩
      · intro h
        by_cases hik : k = i
        · exact Or.inr hik
        · exact Or.inl ⟨by omega, h.2⟩
theorem pop_mk : ∀ k, k ≤ 6 → popW 30 (mkS net k) + zc net k = k := by
  intro k
  induction k with
  | zero => intro _; rw [show mkS net 0 = 0 from rfl, popW_0]; rfl
  | succ k ih =>
    intro hk
    have hi := ih (by omega)
    have hlt := mkS_lt net k
    have h64 : 2 ^ k ≤ 64 := p64 (by omega)
    have e : mkS net (k + 1) = mkS net k ||| (if net k = 0 then 0 else 2 ^ k) := rfl
    have ez : zc net (k + 1) = zc net k + (if net k = 0 then 1 else 0) := rfl
    rw [e, ez]
    by_cases h0 : net k = 0
    · rw [if_pos h0, if_pos h0, Nat.or_zero, ← Nat.add_assoc, hi]
    · rw [if_neg h0, if_neg h0]
      have h := pop_or ⟨mkS net k, by omega⟩ ⟨k, by omega⟩ hlt
      have h' : popW 30 (mkS net k ||| 2 ^ k) = popW 30 (mkS net k) + 1 := h
      rw [h', Nat.add_right_comm]
      show popW 30 (mkS net k) + zc net k + 1 = k + 1
      rw [hi]
theorem addZ_in (hz : z ≤ 6) : ∀ k, k ≤ z → addZ net (mkS net z) k < 2 ^ z ∧ (∀ i, (addZ net (mkS net z) k).testBit i = true ↔ i < z ∧ (net i ≠ 0 ∨ i < k)) ∧ sumS net (addZ net (mkS net z) k) = sumS net (mkS net z) ∧ (sumS net (mkS net z) = 0 → tab net z (addZ net (mkS net z) k) (addZ net (mkS net z) k) = tab net z (mkS net z) (mkS net z) + zc net k) := by
  have h64 := p64 hz
  intro k
  induction k with
  | zero =>
    intro _
    refine ⟨mkS_lt net z, fun i => ?_, rfl, fun _ => by show _ = _ + ((0 : Nat) : Int); rw [show ((0 : Nat) : Int) = 0 from rfl, Int.add_zero]; rfl⟩
    show (mkS net z).testBit i = true ↔ _
    rw [mkS_b]
    exact ⟨fun h => ⟨h.1, Or.inl h.2⟩, fun h => ⟨h.1, h.2.resolve_right (by omega)⟩⟩
  | succ k ih =>
    intro hk
    obtain ⟨i1, i2, i3, i4⟩ := ih (by omega)
    have ez : zc net (k + 1) = zc net k + (if net k = 0 then 1 else 0) := rfl
    have ea : addZ net (mkS net z) (k + 1) = if net k = 0 then addZ net (mkS net z) k ^^^ 2 ^ k else addZ net (mkS net z) k := rfl
    rw [ea, ez]
    by_cases h0 : net k = 0
    · rw [if_pos h0, if_pos h0]
      have hb : (addZ net (mkS net z) k).testBit k = false := by
        cases hh : (addZ net (mkS net z) k).testBit k with
        | false => rfl
        | true =>
          rcases ((i2 k).mp hh).2 with q | q
          · exact absurd h0 q
          · omega
      generalize addZ net (mkS net z) k = V at i1 i2 i3 i4 hb ⊢
      obtain ⟨u1, e, u3, u4⟩ : 2 ^ k &&& (V ^^^ 2 ^ k) = 2 ^ k ∧ (V ^^^ 2 ^ k) ^^^ 2 ^ k = V ∧ V ^^^ 2 ^ k ≠ 0 ∧ V ^^^ 2 ^ k = V ||| 2 ^ k := su_8 ⟨V, by omega⟩ ⟨k, by omega⟩ hb
      refine ⟨up_lt hz i1 (by omega), fun i => ?_, ?_, fun hs => ?_⟩
      · have u4' : V ^^^ 2 ^ k = V ||| 2 ^ k := u4
        rw [u4', Nat.testBit_or, Bool.or_eq_true, i2 i, Nat.testBit_two_pow, decide_eq_true_eq]
        constructor
        · intro h
          rcases h with h | h
          · exact ⟨h.1, h.2.elim Or.inl (fun q => Or.inr (by omega))⟩
          · exact ⟨by omega, Or.inr (by omega)⟩
        · intro h
          by_cases hik : k = i
          · exact Or.inr hik
          · exact Or.inl ⟨h.1, h.2.elim Or.inl (fun q => Or.inr (by omega))⟩
      · have h := sumS_xor (net := net) (s := V ^^^ 2 ^ k) (p := 2 ^ k) u1
        rw [e, sumS_one net k (by omega), h0] at h
        omega
      · rw [T_one hz (by omega) h0 i1 hb (by omega), i4 hs]
        omega
    · rw [if_neg h0, if_neg h0]
      refine ⟨i1, fun i => ?_, i3, fun hs => by rw [i4 hs]; rfl⟩
      rw [i2 i]
      constructor
      · intro h
        exact ⟨h.1, h.2.elim Or.inl (fun q => Or.inr (by omega))⟩
      · intro h
        refine ⟨h.1, h.2.elim Or.inl (fun q => ?_)⟩
        by_cases hik : i = k
        · exact Or.inl (by rw [hik]; exact h0)
        · exact Or.inr (by omega)
theorem pay_one (hz : z ≤ 6) (h : sumS net (2 ^ z - 1) = 0) : (z : Int) - tab net z (2 ^ z - 1) (2 ^ z - 1) = (popW 30 (mkS net z) : Int) - tabG net z (2 ^ z - 1) (mkS net z) := by
  obtain ⟨a1, a2, a3, a4⟩ := addZ_in (net := net) hz z (Nat.le_refl z)
  have hall : addZ net (mkS net z) z = 2 ^ z - 1 := by
    apply Nat.eq_of_testBit_eq
    intro i
    rw [Nat.testBit_two_pow_sub_one]
    cases hh : (addZ net (mkS net z) z).testBit i with
    | true => exact (decide_eq_true ((a2 i).mp hh).1).symm
    | false =>
      refine (decide_eq_false (fun hi => ?_)).symm
      rw [(a2 i).mpr ⟨hi, Or.inr hi⟩] at hh
      cases hh
  have hM : sumS net (mkS net z) = 0 := by rw [← a3, hall]; exact h
  have hT := a4 hM
  rw [hall] at hT
  have hG := T_G (net := net) hz (mkS_lt net z) hM
  have hlt := mkS_lt net z
  have hle : mkS net z ≤ 2 ^ z - 1 := by omega
  rw [tabG_stb net z (2 ^ z - 1) (mkS net z) hle, hT, hG]
  have hp := pop_mk (net := net) z hz
  generalize popW 30 (mkS net z) = pw at hp ⊢
  generalize tabG net z (mkS net z) (mkS net z) = g
  omega
end PAY4

