/-! a year goes by -/
theorem past_115 (X : Nat → Int) (hu : 0 ≤ X 115 ∧ X 115 ≤ 6) : pastR X 115 = min 6 (X 115 + 1) := by
  unfold pastR
  by_cases h : X 115 = 6
  · rw [if_pos h]
    show up _ 115 (5 + 1) 115 = _
    rw [up_s]; omega
  · rw [if_neg h]
    show up _ 115 (X 115 + 1) 115 = _
    rw [up_s]; omega
/-- the newest of the years gone by is now; the others are what they were -/
theorem past_new (X : Nat → Int) (hu : 0 ≤ X 115 ∧ X 115 ≤ 6) {k : Nat} (hk : (1 ≤ k ∧ k ≤ 6) ∨ k = 31 ∨ k = 32 ∨ (7 ≤ k ∧ k < 31 ∧ (k % 4 = 0 ∨ k % 4 = 1))) : pF (pastR X) (116 + 20 * (min 6 (X 115 + 1) - 1).toNat) k = X k := by
  unfold pastR
  by_cases h : X 115 = 6
  · rw [if_pos h, h, show (116 + 20 * (min 6 ((6 : Int) + 1) - 1).toNat) = 216 from rfl, pF_lay _ _ (by decide) hk, up_n _ _ (by omega)]
    unfold sftR
    rw [if_neg (by omega)]
  · rw [if_neg h, show (min 6 (X 115 + 1) - 1).toNat = (X 115).toNat by omega, pF_lay _ _ (by omega) hk]
theorem past_old (X : Nat → Int) (hu : 0 ≤ X 115 ∧ X 115 ≤ 6) {j : Nat} (hj : (j : Int) + 1 < min 6 (X 115 + 1)) {k : Nat} (hk : k ≠ 0) : pF (pastR X) (116 + 20 * (min 6 (X 115 + 1) - 1 - ((j + 1 : Nat) : Int)).toNat) k = pF X (116 + 20 * (X 115 - 1 - (j : Int)).toNat) k := by
  unfold pastR
  by_cases h : X 115 = 6
  · rw [if_pos h, h]
    have ha : (min 6 ((6 : Int) + 1) - 1 - ((j + 1 : Nat) : Int)).toNat + 1 = ((6 : Int) - 1 - (j : Int)).toNat := by omega
    rw [← ha]
    generalize hq : (min 6 ((6 : Int) + 1) - 1 - ((j + 1 : Nat) : Int)).toNat = a at ha ⊢
    rw [pF_out (b := 216) 5 (fun i hi => rfl) (by omega) (by omega) hk, pF_sft X 5 (by omega) (by omega) hk, show 116 + 20 * a + 20 = 116 + 20 * (a + 1) by omega]
  · rw [if_neg h]
    have ha : (min 6 (X 115 + 1) - 1 - ((j + 1 : Nat) : Int)).toNat = (X 115 - 1 - (j : Int)).toNat := by omega
    rw [ha, pF_out (b := 116 + 20 * (X 115).toNat) (X 115) (fun i hi => rfl) (by omega) (by omega) hk]
theorem slot_go (S : LSt) (hc : 0 ≤ S.2.2.1 ∧ S.2.2.1 < 6) : (slotL (goL S) 0 : Int) = (S.2.2.1 + 1) % 6 ∧ ∀ j : Nat, j + 1 < 6 → slotL (goL S) (j + 1) = slotL S j ∧ (slotL S j : Int) ≠ (S.2.2.1 + 1) % 6 := by
  refine ⟨?_, fun j hj => ⟨?_, ?_⟩⟩
  · show ((((S.2.2.1 + 1) % 6 + 12 - ((0 : Nat) : Int)) % 6).toNat : Int) = _
    omega
  · show (((S.2.2.1 + 1) % 6 + 12 - ((j + 1 : Nat) : Int)) % 6).toNat = ((S.2.2.1 + 12 - (j : Int)) % 6).toNat
    omega
  · show (((S.2.2.1 + 12 - (j : Int)) % 6).toNat : Int) ≠ _
    omega
theorem XL_go {X : Nat → Int} {S : LSt} {Y : Int} (h : XL X S) (hL : LI S Y) : XL (goF (pastR X) false) (goL S) := by
  obtain ⟨hF, hB, hc, h6, hp⟩ := hL
  obtain ⟨hs6, hsz⟩ := sizeF_le hF
  have hu : 0 ≤ X 115 ∧ X 115 ≤ 6 := by rw [h.2.1]; exact h6
  have hpl : trF (pastR X) = trF S.1 := (trF_k (fun k hk => pastR_lo X (by omega))).trans h.1.1
  have hps : sizeF (pastR X) = sizeF S.1 := by rw [← trF_sz, hpl, trF_sz]
  have hh := go_hi (pastR X) false (by omega)
  have hfix : goF S.1 false 6 = S.1 6 := fx_go S.1 false (by unfold fixd; omega) (by decide)
  refine ⟨⟨?_, BE_hi h.1.2.1 (fun k h1 h2 => (hh k h1).trans (pastR_lo X (by omega))) hB.2.1.2 hB.2.2.1.2 hB.2.2.2.1.2, ?_⟩, ?_, fun j hj => ?_⟩
  · rw [trF_go (by omega), hpl]; exact (trF_go hs6 false).symm
  · exact ⟨fun d hd => by show _ < goF S.1 false 6 ∧ _ < goF S.1 false 6; rw [hfix]; exact h.1.2.2.1 d hd, fun r hr => by show _ < goF S.1 false 6; rw [hfix]; exact h.1.2.2.2 r hr⟩
  · rw [hh 115 (by decide), past_115 X hu, h.2.1]; rfl
  · replace hj : (j : Int) < min 6 (S.2.2.2.1 + 1) := hj
    refine PA_hi (fun k hk => hh k (by omega)) (by omega) ?_
    show PA (pF (pastR X) (116 + 20 * (min 6 (S.2.2.2.1 + 1) - 1 - (j : Int)).toNat)) (if ((slotL (goL S) j : Nat) : Int) = (S.2.2.1 + 1) % 6 then setF (S.2.2.2.2 (slotL (goL S) j)) S.1 else S.2.2.2.2 (slotL (goL S) j))
    obtain ⟨w0, w1⟩ := slot_go S hc
    cases j with
    | zero =>
      rw [if_pos w0]
      intro k hk
      rw [sz_set] at hk
      have e : min 6 (S.2.2.2.1 + 1) - 1 - ((0 : Nat) : Int) = min 6 (X 115 + 1) - 1 := by rw [h.2.1]; omega
      rw [e, past_new X hu (by omega), setF_app, if_pos (by omega)]
      exact trF_lv h.1.1 (by omega) hs6
    | succ j =>
      rw [(w1 j (by omega)).1, if_neg (w1 j (by omega)).2]
      intro k hk
      have e : min 6 (S.2.2.2.1 + 1) - 1 - ((j + 1 : Nat) : Int) = min 6 (X 115 + 1) - 1 - ((j + 1 : Nat) : Int) := by rw [h.2.1]
      rw [e, past_old X hu (by rw [h.2.1]; omega) (by omega)]
      have h1 := h.2.2 j (by omega) k hk
      rw [h.2.1]
      exact h1
theorem ZX_go {X : Nat → Int} {Y : Int} (h : ZX X Y) : ZX (goF (pastR X) false) (Y + 1) := by
  have hu := h.2.2.1
  have hFp : FI (pastR X) Y := FI_k h.1 (fun k hk => pastR_lo X (by omega))
  have hh := go_hi (pastR X) false (sizeF_le hFp).1
  have hFg := FI_go hFp false
  have h115 : goF (pastR X) false 115 = min 6 (X 115 + 1) := (hh 115 (by decide)).trans (past_115 X hu)
  have hFX : FI X (Y + 1) := FI_le h.1 (by omega)
  refine ⟨hFg, BI_k h.2.1 (fun k h1 h2 => (hh k h1).trans (pastR_lo X (by omega))), by rw [h115]; omega, fun j hj => ?_⟩
  rw [h115] at hj
  have h0 : 2 ≤ goF (pastR X) false 0 ∧ goF (pastR X) false 0 ≤ 70 := hFg.1
  by_cases hjn : (j : Int) = min 6 (X 115 + 1) - 1
  · have hjj : j = (min 6 (X 115 + 1) - 1).toNat := by omega
    rw [hjj]
    by_cases h6 : X 115 = 6
    · have e : pastR X = layR (up (sftR X 100) 115 5) 216 5 := by unfold pastR; rw [if_pos h6]
      have e2 : 116 + 20 * (min 6 (X 115 + 1) - 1).toNat = 216 := by rw [h6]; rfl
      rw [e2]
      refine FI_lay (N := up (sftR X 100) 115 5) 5 (by decide) (FI_k hFX (fun k hk => by rw [up_n _ _ (by omega)]; unfold sftR; rw [if_neg (by omega)])) (fun k hk => ?_) h0
      rw [pF_hi (fun x hx => hh x (by omega)) (by decide) hk, e]
    · have e : pastR X = layR X (116 + 20 * (X 115).toNat) (X 115) := by unfold pastR; rw [if_neg h6]
      have e2 : (min 6 (X 115 + 1) - 1).toNat = (X 115).toNat := by omega
      rw [e2]
      refine FI_lay (N := X) (X 115) (by omega) hFX (fun k hk => ?_) h0
      rw [pF_hi (fun x hx => hh x (by omega)) (by omega) hk, e]
  · have hd : ∃ i : Nat, (j : Int) = min 6 (X 115 + 1) - 1 - ((i + 1 : Nat) : Int) ∧ (i : Int) + 1 < min 6 (X 115 + 1) := ⟨(min 6 (X 115 + 1) - 1 - 1 - (j : Int)).toNat, by omega, by omega⟩
    obtain ⟨i, hi, hi2⟩ := hd
    have hjj : j = (min 6 (X 115 + 1) - 1 - ((i + 1 : Nat) : Int)).toNat := by omega
    rw [hjj]
    refine FI_0 (FI_le (h.2.2.2 (X 115 - 1 - (i : Int)).toNat (by omega)) (Y := Y) (by omega)) (fun k hk => ?_) (by rw [pF_0]; exact h0)
    rw [pF_hi (fun x hx => hh x (by omega)) (by omega) hk]
    exact past_old X hu hi2 hk
theorem pass_rel {X : Nat → Int} {S : LSt} {Y : Int} (h : XL X S) (hz : ZX X Y) (hL : LI S Y) : ∀ n : Nat, (passN S n).1 = (passR X n).1 ∧ XL (passR X n).2 (passN S n).2 ∧ ZX (passR X n).2 (Y + n) ∧ LI (passN S n).2 (Y + n) := by
  intro n
  induction n with
  | zero => exact ⟨rfl, h, by rw [show Y + ((0 : Nat) : Int) = Y by omega]; exact hz, by rw [show Y + ((0 : Nat) : Int) = Y by omega]; exact hL⟩
  | succ n ih =>
    obtain ⟨i1, i2, i3, i4⟩ := ih
    have hs6 := (sizeF_le i4.1).1
    have hpl : trF (pastR (passR X n).2) = trF (passN S n).2.1 := (trF_k (fun k hk => pastR_lo _ (by omega))).trans i2.1.1
    have hps : sizeF (pastR (passR X n).2) = sizeF (passN S n).2.1 := by rw [← trF_sz, hpl, trF_sz]
    have hw : wantF (passN S n).2.1 false = wantF (pastR (passR X n).2) false := by rw [← trF_want hs6, ← hpl, trF_want (by omega)]
    have e : Y + ((n + 1 : Nat) : Int) = Y + (n : Int) + 1 := by omega
    rw [e]
    refine ⟨?_, XL_go i2 i4, ZX_go i3, LI_go i4⟩
    show (passN S n).1 + wantF (passN S n).2.1 false = (passR X n).1 + wantF (pastR (passR X n).2) false
    rw [i1, hw]

