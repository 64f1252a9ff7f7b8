/-! the payments: families that owe nothing -/
theorem su_7 : ∀ s : Fin 64, ∀ f g : Fin 6, s.val.testBit f.val = false → (s.val ^^^ 2 ^ f.val).testBit g.val = true → (g = f ∧ (s.val ^^^ 2 ^ f.val) ^^^ 2 ^ g.val = s.val) ∨ (s.val.testBit g.val = true ∧ (s.val ^^^ 2 ^ f.val) ^^^ 2 ^ g.val = (s.val ^^^ 2 ^ g.val) ^^^ 2 ^ f.val ∧ (s.val ^^^ 2 ^ g.val).testBit f.val = false) := by decide +kernel
theorem su_8 : ∀ s : Fin 64, ∀ f : Fin 6, s.val.testBit f.val = false → 2 ^ f.val &&& (s.val ^^^ 2 ^ f.val) = 2 ^ f.val ∧ (s.val ^^^ 2 ^ f.val) ^^^ 2 ^ f.val = s.val ∧ (s.val ^^^ 2 ^ f.val) ≠ 0 ∧ s.val ^^^ 2 ^ f.val = s.val ||| 2 ^ f.val := by decide +kernel
theorem sumS_one : ∀ (net : Nat → Int) (f : Nat), f < 6 → sumS net (2 ^ f) = net f := by
  intro net f hf
  rcases (show f = 0 ∨ f = 1 ∨ f = 2 ∨ f = 3 ∨ f = 4 ∨ f = 5 by omega) with rfl | rfl | rfl | rfl | rfl | rfl
  · show net 0 + 0 + 0 + 0 + 0 + 0 = net 0; omega
  · show 0 + net 1 + 0 + 0 + 0 + 0 = net 1; omega
  · show 0 + 0 + net 2 + 0 + 0 + 0 = net 2; omega
  · show 0 + 0 + 0 + net 3 + 0 + 0 = net 3; omega
  · show 0 + 0 + 0 + 0 + net 4 + 0 = net 4; omega
  · show 0 + 0 + 0 + 0 + 0 + net 5 = net 5; omega
section PAY3
variable {net : Nat → Int} {z : Nat}
theorem up_lt {s f : Nat} (hz : z ≤ 6) (hs : s < 2 ^ z) (hf : f < z) : s ^^^ 2 ^ f < 2 ^ z := Nat.xor_lt_two_pow hs (Nat.pow_lt_pow_right (by decide) hf)
theorem T_add (hz : z ≤ 6) {f : Nat} (hf : f < z) (hn : net f = 0) : ∀ s, s < 2 ^ z → s.testBit f = false → tab net z (s ^^^ 2 ^ f) (s ^^^ 2 ^ f) ≤ tab net z s s + 1 := by
  have h64 := p64 hz
  intro s
  induction s using Nat.strongRecOn with
  | _ s ih =>
    intro hs hb
    obtain ⟨u1, u2', u3, -⟩ := su_8 ⟨s, by omega⟩ ⟨f, by omega⟩ hb
    have hult := up_lt (z := z) hz hs hf
    have hT := (tab_in net hz s (by omega) s).1
    have hsu : sumS net (s ^^^ 2 ^ f) = sumS net s := by
      have h := sumS_xor (net := net) (s := s ^^^ 2 ^ f) (p := 2 ^ f) u1
      have e : (s ^^^ 2 ^ f) ^^^ 2 ^ f = s := u2'
      rw [e, sumS_one net f (by omega), hn] at h
      omega
    obtain ⟨r, hr⟩ : ∃ r, s ^^^ 2 ^ f = r + 1 := ⟨(s ^^^ 2 ^ f) - 1, by have : s ^^^ 2 ^ f ≠ 0 := u3; omega⟩
    have hTu := T_st (net := net) (z := z) hz r (by omega)
    rw [← hr] at hTu
    rw [hTu, hsu]
    have hiz := iz_in (sumS net s)
    rcases mgb_ex (fun j => tab net z j j) (s ^^^ 2 ^ f) z with h | ⟨g, hg, hgb, h⟩
    · rw [h]; omega
    · rw [h]
      rcases su_7 ⟨s, by omega⟩ ⟨f, by omega⟩ ⟨g, by omega⟩ hb hgb with ⟨-, e⟩ | ⟨e1, e2, e3⟩
      · have e' : (s ^^^ 2 ^ f) ^^^ 2 ^ g = s := e
        simp only [e']; omega
      · have e2' : (s ^^^ 2 ^ f) ^^^ 2 ^ g = (s ^^^ 2 ^ g) ^^^ 2 ^ f := e2
        have hlt : s ^^^ 2 ^ g < s := (su_1 ⟨s, by omega⟩ ⟨g, by omega⟩ e1).1
        have hi := ih (s ^^^ 2 ^ g) hlt (by omega) e3
        have hge := T_ge (net := net) hz hs e1
        simp only [e2']
        simp only at hge
        omega
theorem T_one (hz : z ≤ 6) {f s : Nat} (hf : f < z) (hn : net f = 0) (hs : s < 2 ^ z) (hb : s.testBit f = false) (h0 : sumS net s = 0) : tab net z (s ^^^ 2 ^ f) (s ^^^ 2 ^ f) = tab net z s s + 1 := by
  have h64 := p64 hz
  obtain ⟨u1, u2', u3, -⟩ := su_8 ⟨s, by omega⟩ ⟨f, by omega⟩ hb
  have e : (s ^^^ 2 ^ f) ^^^ 2 ^ f = s := u2'
  have hsu : sumS net (s ^^^ 2 ^ f) = sumS net s := by
    have h := sumS_xor (net := net) (s := s ^^^ 2 ^ f) (p := 2 ^ f) u1
    rw [e, sumS_one net f (by omega), hn] at h
    omega
  have h1 := T_add (net := net) hz hf hn s hs hb
  have h2 := T_split (net := net) (p := 2 ^ f) hz (up_lt (z := z) hz hs hf) u1 (Nat.pos_iff_ne_zero.mp (Nat.two_pow_pos f)) (by rw [hsu]; exact h0)
  rw [e] at h2
  omega
end PAY3

