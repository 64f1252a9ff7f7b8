/-! cleared: the two answers are one -/
theorem XE_lo {X F B : Nat → Int} (h : XE X F B) {k : Nat} (hk : k < 7 ∨ k = 31 ∨ k = 32) (hs : sizeF F ≤ 6) : X k = F k := by
  have hz := XE_sz h
  have := congrFun h.1 k
  unfold trF at this
  rw [tr_a X (by omega), tr_a F (by omega)] at this
  exact this
theorem XE_away {X F B : Nat → Int} (h : XE X F B) (hs : sizeF F ≤ 6) : awayF X = awayF F := by
  unfold awayF
  rw [XE_lo h (k := 0) (by omega) hs, XE_lo h (k := 1) (by omega) hs]
theorem bal_eq {X B : Nat → Int} (h : BE X B) (w f : Int) : ∀ d, d ≤ (B 33).toNat → balB X w f d = balB B w f d := by
  obtain ⟨a1, a2, a3, a4, a5, a6, a7⟩ := h
  intro d
  induction d with
  | zero => intro _; rfl
  | succ d ih =>
    intro hd
    have e0 := a5 (3 * d) (by omega)
    have e1 := a5 (3 * d + 1) (by omega)
    have e2 := a5 (3 * d + 2) (by omega)
    have f1 : X (35 + 3 * d) = B (35 + 3 * d) := by rw [show 35 + 3 * d = 34 + (3 * d + 1) by omega]; exact e1
    have f2 : X (36 + 3 * d) = B (36 + 3 * d) := by rw [show 36 + 3 * d = 34 + (3 * d + 2) by omega]; exact e2
    have hdue : dueB X w d = dueB B w d := by unfold dueB; rw [f2, a2]
    show balB X w f d + (if X (35 + 3 * d) = f then dueB X w d else 0) - (if X (34 + 3 * d) = f then dueB X w d else 0) = balB B w f d + (if B (35 + 3 * d) = f then dueB B w d else 0) - (if B (34 + 3 * d) = f then dueB B w d else 0)
    rw [ih (by omega), hdue, e0, f1]
theorem net_eq {X F B : Nat → Int} (h : XE X F B) (hs : sizeF F ≤ 6) : netF X (awayF X) = netF B (awayF F) := by
  funext f
  unfold netF
  rw [XE_away h hs, h.2.1.1]
  exact bal_eq h.2.1 _ _ _ (Nat.le_refl _)
theorem pay_rel {X F B : Nat → Int} {Y : Int} (h : XE X F B) (hF : FI F Y) (hB : BI B) : payN X = payF F B := by
  obtain ⟨hs6, hsz⟩ := sizeF_le hF
  have hb33 := hB.2.1
  have hdd := hB.2.2.2.2.1
  have hsum : sumS (netF B (awayF F)) (2 ^ sizeF F - 1) = 0 := by
    have hlt : 2 ^ sizeF F - 1 < 2 ^ sizeF F := Nat.sub_lt (Nat.two_pow_pos _) (by decide)
    rw [← sumN_S hs6 hlt]
    refine bal_sum (fun i hi => ?_) (B 33).toNat (fun c hc => ?_)
    · rw [Nat.testBit_two_pow_sub_one]; exact decide_eq_true hi
    · have h1 := h.2.2.1 c hc
      have h2 := hdd c (by omega)
      omega
  have hp := pay_one hs6 hsum
  unfold payN payF
  rw [net_eq h hs6, XE_sz h]
  exact hp.symm

