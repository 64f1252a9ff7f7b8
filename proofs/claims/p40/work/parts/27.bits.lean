/-! bits of small numbers -/
theorem z_nI (n : Nat) : zI (n : Int) = nI n := zI_nat n
theorem b_andN {a b : Nat} (ha : a < 2147483648) : b_and (a : Int) (b : Int) = ((a &&& b : Nat) : Int) := by
  unfold b_and
  rw [z_nI, z_nI]
  have e : nI a &&& nI b = nI (a &&& b) := by
    apply Int32.toBitVec_inj.mp
    show BitVec.ofNat 32 a &&& BitVec.ofNat 32 b = BitVec.ofNat 32 (a &&& b)
    rw [BitVec.ofNat_and]
  have h1 : a &&& b ≤ a := Nat.and_le_left
  rw [e, ← z_nI, zI_toInt ⟨by omega, by omega⟩]
theorem b_orN {a b k : Nat} (ha : a < 2 ^ k) (hb : b < 2 ^ k) (hk : k ≤ 31) : b_or (a : Int) (b : Int) = ((a ||| b : Nat) : Int) := by
  unfold b_or
  rw [z_nI, z_nI]
  have e : nI a ||| nI b = nI (a ||| b) := by
    apply Int32.toBitVec_inj.mp
    show BitVec.ofNat 32 a ||| BitVec.ofNat 32 b = BitVec.ofNat 32 (a ||| b)
    rw [BitVec.ofNat_or]
  have h1 : a ||| b < 2 ^ k := Nat.or_lt_two_pow ha hb
  have h2 : 2 ^ k ≤ 2 ^ 31 := Nat.pow_le_pow_right (by decide) hk
  have h3 : a ||| b < 2147483648 := by have : (2 : Nat) ^ 31 = 2147483648 := rfl; omega
  rw [e, ← z_nI, zI_toInt ⟨by omega, by omega⟩]
theorem b_xorN {a b k : Nat} (ha : a < 2 ^ k) (hb : b < 2 ^ k) (hk : k ≤ 31) : b_xor (a : Int) (b : Int) = ((a ^^^ b : Nat) : Int) := by
  unfold b_xor
  rw [z_nI, z_nI]
  have e : nI a ^^^ nI b = nI (a ^^^ b) := by
    apply Int32.toBitVec_inj.mp
    show BitVec.ofNat 32 a ^^^ BitVec.ofNat 32 b = BitVec.ofNat 32 (a ^^^ b)
    rw [BitVec.ofNat_xor]
  have h1 : a ^^^ b < 2 ^ k := Nat.xor_lt_two_pow ha hb
  have h2 : 2 ^ k ≤ 2 ^ 31 := Nat.pow_le_pow_right (by decide) hk
  have h3 : a ^^^ b < 2147483648 := by have : (2 : Nat) ^ 31 = 2147483648 := rfl; omega
  rw [e, ← z_nI, zI_toInt ⟨by omega, by omega⟩]
theorem sh_am : ∀ k, k < 32 → ((nI k &&& 31).toBitVec.smod 32).toNat = k := by decide +kernel
theorem b_shrN {a k : Nat} (ha : a < 2147483648) (hk : k < 32) : b_shr (a : Int) (k : Int) = ((a / 2 ^ k : Nat) : Int) := by
  unfold b_shr
  rw [z_nI, z_nI, pk_shrN (by omega) _ k (sh_am k hk)]
  have h1 : a / 2 ^ k ≤ a := Nat.div_le_self _ _
  generalize a / 2 ^ k = q at h1 ⊢
  rw [← z_nI, zI_toInt ⟨by omega, by omega⟩]
theorem b_shlN {a k : Nat} (hk : k < 32) (h : a * 2 ^ k < 2147483648) : b_shl (a : Int) (k : Int) = ((a * 2 ^ k : Nat) : Int) := by
  unfold b_shl
  rw [z_nI, z_nI, pk_shlN _ k (sh_am k hk) (by omega)]
  generalize a * 2 ^ k = q at h ⊢
  rw [← z_nI, zI_toInt ⟨by omega, by omega⟩]
theorem b_shl1 {k : Nat} (hk : k ≤ 20) : b_shl 1 (k : Int) = ((2 ^ k : Nat) : Int) := by
  have h := b_shlN (a := 1) (k := k) (by omega) (by
    have : 2 ^ k ≤ 2 ^ 20 := Nat.pow_le_pow_right (by decide) hk
    have : (2 : Nat) ^ 20 = 1048576 := rfl
    omega)
  rw [Nat.one_mul] at h
  exact h
theorem b_bit {s f : Nat} (hs : s < 2147483648) (hf : f < 32) : b_and (b_shr (s : Int) (f : Int)) 1 = if s.testBit f then 1 else 0 := by
  rw [b_shrN hs hf]
  have h1 : s / 2 ^ f ≤ s := Nat.div_le_self _ _
  have h := b_andN (a := s / 2 ^ f) (b := 1) (by omega)
  rw [Nat.and_one_is_mod] at h
  refine h.trans ?_
  rw [Nat.testBit_eq_decide_div_mod_eq]
  by_cases hb : s / 2 ^ f % 2 = 1
  · rw [hb]; simp
  · have : s / 2 ^ f % 2 = 0 := by omega
    rw [this]; simp


