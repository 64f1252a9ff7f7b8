/-! word -/
theorem YI.let {G : WG} {C : CF} {I I1 : MI} {P : MP} {Y : Int} (h : YI G C I P Y) (hi : ∀ x, x ≠ gB G + 4 → I1 x = I x) : YI G C I1 P Y := by
  obtain ⟨hy, ⟨l1, l2, l3, l4⟩, ⟨w1, w2, w3, w4⟩, hU, ht, ⟨n, hn⟩, hto, hs0, hg0, hx, hst, hlo⟩ := h
  have e1 : rdL I1 (gB G + 11) = rdL I (gB G + 11) := rdL_eqr (fun x hx => hi x (by omega))
  have e2 : rdL I1 (gB G + 91) = rdL I (gB G + 91) := rdL_eqr (fun x hx => hi x (by omega))
  have e3 : rdL I1 (gB G + 171) = rdL I (gB G + 171) := rdL_eqr (fun x hx => hi x (by omega))
  have e4 : rdL I1 (gB G + 251) = rdL I (gB G + 251) := rdL_eqr (fun x hx => hi x (by omega))
  unfold YI
  rw [e1, e2, e3, e4]
  exact ⟨hy, ⟨l1, l2, l3, l4⟩, ⟨w1, w2, w3, w4⟩, hU, fun i h1 h2 => TF_eqr (ht i h1 h2) (fun x hx => hi x (by omega)) (fun _ _ => rfl), ⟨n, by rw [hi _ (by omega)]; exact hn.1, hn.2.1, by rw [hi _ (by omega)]; exact hn.2.2⟩, by rw [hi _ (by omega)]; exact hto, by rw [hi _ (by omega)]; exact hs0, by rw [hi _ (by omega)]; exact hg0, TxtL_eqr hx hlo (fun x hx => hi x (by omega)), StatL_eqr hst hlo (fun x hx => hi x (by omega)), hlo⟩
theorem rdY_let {G : WG} {I I1 : MI} {L : ML} (hi : ∀ x, x ≠ gB G + 4 → I1 x = I x) : rdY G I1 L = rdY G I L := by
  unfold rdY
  rw [rdL_eqr (I1 := I1) (I := I) (l := gB G + 11) (fun x hx => hi x (by omega)), rdL_eqr (I1 := I1) (I := I) (l := gB G + 171) (fun x hx => hi x (by omega)), rdL_eqr (I1 := I1) (I := I) (l := gB G + 251) (fun x hx => hi x (by omega)), hi (gB G + 2) (by omega), hi (gB G + 1) (by omega), hi (gB G) (by omega)]
theorem letN_all {R : Nat → Int} : ∀ n, letN R n = true → ∀ k, k < n → 0 ≤ R k ∧ R k ≤ 25 := by
  intro n h k hk
  by_cases hz : 0 ≤ R k ∧ R k ≤ 25
  · exact hz
  · rw [letN_no hz n hk] at h; cases h
theorem wordB_congr (B : Nat → Int) (n : Nat) {R R2 : Nat → Int} (h : ∀ k, k < 6 → R k = R2 k) : wordB B n R = wordB B n R2 := by
  unfold wordB
  have e : wordN B n R 6 = wordN B n R2 6 := by
    funext k
    unfold wordN
    by_cases hk : 91 + 6 * n ≤ k ∧ k < 91 + 6 * n + 6
    · rw [if_pos hk, if_pos hk, h _ (by omega)]
    · rw [if_neg hk, if_neg hk]
  rw [e]
theorem BI_word {B : Nat → Int} {n : Nat} {R : Nat → Int} (h : BI B) (hn : n < 4) (hR : ∀ k, k < 6 → 0 ≤ R k ∧ R k ≤ 25) : BI (wordB B n R) := by
  obtain ⟨b0, b1, b2, b3, b4, b5, b6⟩ := h
  have e : ∀ k, k < 90 → wordB B n R k = B k := fun k hk => by
    unfold wordB; rw [up_n _ _ (by omega)]; unfold wordN; rw [if_neg (by omega)]
  refine ⟨by rw [e _ (by omega)]; exact b0, by rw [e _ (by omega)]; exact b1, by rw [e _ (by omega)]; exact b2, by unfold wordB; rw [up_s]; omega, fun d hd => ?_, fun r hr => ?_, fun i hi => ?_⟩
  · rw [e _ (by omega), e _ (by omega), e _ (by omega)]; exact b4 d hd
  · rw [e _ (by omega), e _ (by omega), e _ (by omega)]; exact b5 r hr
  · unfold wordB
    rw [up_n _ _ (by omega)]
    unfold wordN
    by_cases hk : 91 + 6 * n ≤ 91 + i ∧ 91 + i < 91 + 6 * n + 6
    · rw [if_pos hk]; exact hR _ (by omega)
    · rw [if_neg hk]; exact b6 i hi
def wordS (S : YS) (R : Nat → Int) : Int × YS := if letN R 6 = true then (if S.1.2.1 90 < 4 then (S.1.2.1 90, yLu S (lBk S.1 (wordB S.1.2.1 (S.1.2.1 90).toNat R))) else (-4, yF S)) else (-2, yB S)

