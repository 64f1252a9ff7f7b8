/-! word -/
theorem YI.let {G : WG} {C : CF} {I I1 : MI} {P : MP} {Y : Int} (h : YI G C I P Y) (hi : ∀ x, x ≠ gB G + 4 → I1 x = I x) : YI G C I1 P Y := by
  obtain ⟨hy, ⟨l1, l2, l3, l4⟩, ⟨w1, w2, w3, w4⟩, hU, ht, ⟨n, hn⟩, hto, hs0, hg0, hx, hst, hlo⟩ := h
  have e1 : rdL I1 (gB G + 11) = rdL I (gB G + 11) := rdL_eqr (fun x hx => hi x (by omega))
  have e2 : rdL I1 (gB G + 91) = rdL I (gB G + 91) := rdL_eqr (fun x hx => hi x (by omega))
  have e3 : rdL I1 (gB G + 171) = rdL I (gB G + 171) := rdL_eqr (fun x hx => hi x (by omega))
  have e4 : rdL I1 (gB G + 251) = rdL I (gB G + 251) := rdL_eqr (fun x hx => hi x (by omega))
  unfold YI
  rw [e1, e2, e3, e4]
  exact ⟨hy, ⟨l1, l2, l3, l4⟩, ⟨w1, w2, w3, w4⟩, hU, fun i h1 h2 => TF_eqr (ht i h1 h2) (fun x hx => hi x (by omega)) (fun _ _ => rfl), ⟨n, by rw [hi _ (by omega)]; exact hn.1, hn.2.1, by rw [hi _ (by omega)]; exact hn.2.2⟩, by rw [hi _ (by omega)]; exact hto, by rw [hi _ (by omega)]; exact hs0, by rw [hi _ (by omega)]; exact hg0, TxtL_eqr hx hlo (fun x hx => hi x (by omega)), StatL_eqr hst hlo (fun x hx => hi x (by omega)), hlo⟩
theorem rdY_let {G : WG} {I I1 : MI} {L : ML} (hi : ∀ x, x ≠ gB G + 4 → I1 x = I x) : rdY G I1 L = rdY G I L := by
  unfold rdY
  rw [rdL_eqr (I1 := I1) (I := I) (l := gB G + 11) (fun x hx => hi x (by omega)), rdL_eqr (I1 := I1) (I := I) (l := gB G + 171) (fun x hx => hi x (by omega)), rdL_eqr (I1 := I1) (I := I) (l := gB G + 251) (fun x hx => hi x (by omega)), hi (gB G + 2) (by omega), hi (gB G + 1) (by omega), hi (gB G) (by omega)]
theorem letN_all {R : Nat → Int} : ∀ n, letN R n = true → ∀ k, k < n → 0 ≤ R k ∧ R k ≤ 25 := by
  intro n h k hk
  by_cases hz : 0 ≤ R k ∧ R k ≤ 25
  · exact hz
  · rw [letN_no hz n hk] at h; cases h
theorem wordB_congr (B : Nat → Int) (n : Nat) {R R2 : Nat → Int} (h : ∀ k, k < 6 → R k = R2 k) : wordB B n R = wordB B n R2 := by
  unfold wordB
  have e : wordN B n R 6 = wordN B n R2 6 := by
    funext k
    unfold wordN
    by_cases hk : 91 + 6 * n ≤ k ∧ k < 91 + 6 * n + 6
    · rw [if_pos hk, if_pos hk, h _ (by omega)]
    · rw [if_neg hk, if_neg hk]
  rw [e]
theorem BI_word {B : Nat → Int} {n : Nat} {R : Nat → Int} (h : BI B) (hn : n < 4) (hR : ∀ k, k < 6 → 0 ≤ R k ∧ R k ≤ 25) : BI (wordB B n R) := by
  obtain ⟨b0, b1, b2, b3, b4, b5, b6⟩ := h
  have e : ∀ k, k < 90 → wordB B n R k = B k := fun k hk => by
    unfold wordB; rw [up_n _ _ (by omega)]; unfold wordN; rw [if_neg (by omega)]
  refine ⟨by rw [e _ (by omega)]; exact b0, by rw [e _ (by omega)]; exact b1, by rw [e _ (by omega)]; exact b2, by unfold wordB; rw [up_s]; omega, fun d hd => ?_, fun r hr => ?_, fun i hi => ?_⟩
  · rw [e _ (by omega), e _ (by omega), e _ (by omega)]; exact b4 d hd
  · rw [e _ (by omega), e _ (by omega), e _ (by omega)]; exact b5 r hr
  · unfold wordB
    rw [up_n _ _ (by omega)]
    unfold wordN
    by_cases hk : 91 + 6 * n ≤ 91 + i ∧ 91 + i < 91 + 6 * n + 6
    · rw [if_pos hk]; exact hR _ (by omega)
    · rw [if_neg hk]; exact b6 i hi
def wordS (S : YS) (R : Nat → Int) : Int × YS := if letN R 6 = true then (if S.1.2.1 90 < 4 then (S.1.2.1 90, yLu S (lBk S.1 (wordB S.1.2.1 (S.1.2.1 90).toNat R))) else (-4, yF S)) else (-2, yB S)
theorem sX11_word {G : WG} {C : CF} {I : MI} {P : MP} {L : ML} {Y a b c d e f : Int} (h : YI G C I P Y := by assumption) (ha : iR a := by omega) (hb' : iR b := by omega) (hc : iR c := by omega) (hd : iR d := by omega) (he : iR e := by omega) (hf : iR f := by omega) : SX11_word G [.ref (gB G), .int (zI a), .int (zI b), .int (zI c), .int (zI d), .int (zI e), .int (zI f)] C I P L (NI C (QY G (wordS (rdY G I L) (rowL a b c d e f)).1 (wordS (rdY G I L) (rowL a b c d e f)).2 Y C)) := by
  have hyl := h.1
  obtain ⟨hK, hK4, hP0, hP1, hP2, hP3, hP4, hP5, hP6, hr, hl, -⟩ := id hyl
  have hKl := hl.2.1
  have hPb : P (gB G + 11) 1 = some (gB G + 12) := hl.2.2.2.2.1
  have hb : BooksL G C P (gB G + 12) := hl.2.2.2.2.2.2.1
  have hKb := hb.2.1
  have hBI : BI (rdB I (gB G + 12)) := h.2.1.1.2.1
  have hw4 := hBI.2.2.2.1
  refine en_I (by decide +kernel) (Nat.le_of_ble_eq_true rfl) ?_
  change Wd _ _ _ _ _ _ _ _ 0 [some _, some _, some _, some _, some _, some _, some _] [] _ _ _ _
  refine r_aload_n (pc := 0) dX11_word_0 rfl ?_
  refine r_iload_n (pc := 1) dX11_word_1 rfl ?_
  refine r_iload_n (pc := 2) dX11_word_2 rfl ?_
  refine r_iload_n (pc := 3) dX11_word_3 rfl ?_
  refine r_iload (pc := 4) dX11_word_4 rfl ?_
  refine r_iload (pc := 6) dX11_word_6 rfl ?_
  refine r_iload (pc := 8) dX11_word_8 rfl ?_
  refine i_V6ig (pc := 10) okX11_takeLetters inX11_takeLetters selX11_takeLetters q925 dX11_word_10 (by assumption) rfl (by decide) (Nat.le_of_ble_eq_true rfl) (sX11_takeLetters) (fun r1 I1 P1 L1 hq1 => ?_)
  obtain ⟨rfl, hrow, hO1, rfl, rfl⟩ := hq1
  have hI1 := h.let hO1
  have hR1 : rdY G I1 L = rdY G I L := rdY_let hO1
  have eB : rdB I1 (gB G + 12) = rdB I (gB G + 12) := rdB_eqr (fun x hx => hO1 x (by omega))
  have e3 : I1 (gB G + 12) 3 = ((rdB I (gB G + 12) 90).toNat : Int) := by rw [ab_3 I1 (gB G + 12), eB]; omega
  refine r_if_ne (pc := 13) 23 dX11_word_13 (by decide) (by first | omega | exact iR_b _) (fun h13 => ?_) (fun h13 => ?_)
  · skip
    refine r_aload_n (pc := 23) dX11_word_23 rfl ?_
    refine r_getP (pc := 24) dX11_word_24 frX11_40 (by assumption) (by assumption) ?_
    refine r_getP (pc := 27) dX11_word_27 frX11_191 (by assumption) (by assumption) ?_
    refine r_getI (pc := 30) dX11_word_30 frX11_254 (by assumption) ?_
    refine r_iconst (pc := 33) dX11_word_33 ?_
    refine r_icmp_lt (pc := 34) 42 dX11_word_34 (by decide) (by first | omega | exact iR_b _) (by first | omega | exact iR_b _) (fun h34 => ?_) (fun h34 => ?_)
    · skip
      refine r_aload_n (pc := 42) dX11_word_42 rfl ?_
      refine r_getP (pc := 43) dX11_word_43 frX11_40 (by assumption) (by assumption) ?_
      refine r_getP (pc := 46) dX11_word_46 frX11_191 (by assumption) (by assumption) ?_
      refine r_aload_n (pc := 49) dX11_word_49 rfl ?_
      refine r_getA (pc := 50) dX11_word_50 frX11_16 (by assumption) (by assumption) ?_
      have hlt : rdB I (gB G + 12) 90 < 4 := by omega
      refine i_V1ig (pc := 53) okX0_addWord inX0_addWord selX0_addWord q931 dX11_word_53 (by assumption) rfl (by decide) (Nat.le_of_ble_eq_true rfl) (sX0_addWord (n := (rdB I (gB G + 12) 90).toNat)) (fun r3 I3 P3 L3 hq3 => ?_)
      obtain ⟨rfl, hT3, hO3, rfl, rfl⟩ := hq3
      rw [eB, wordB_congr _ _ hrow] at hT3
      refine t_iret (pc := 56) dX11_word_56 rfl rfl ?_
      unfold wordS
      rw [if_pos (bt h13), if_pos (show (rdY G I L).1.2.1 90 < 4 from hlt)]
      refine ⟨by show _ = rdB I (gB G + 12) 90; omega, ?_, hI1.book hO3 ?_⟩
      · rw [rdY_lump ((outL.rf I1 _).b hO3) (rdL_book hO3), hR1, hT3]
        have e1 : rdL I1 (gB G + 11) = (rdY G I L).1 := by rw [← hR1]; rfl
        rw [e1]; rfl
      · rw [hT3]; exact BI_word hBI (by omega) (letN_all 6 (bt h13))
    · skip
      refine r_aload_n (pc := 37) dX11_word_37 rfl ?_
      refine i_V0ix (pc := 38) okX11_refuseFull inX11_refuseFull selX11_refuseFull q369 dX11_word_38 (by assumption) rfl (by decide) (Nat.le_of_ble_eq_true rfl) (sX11_refuseFull) ?_
      refine t_iret (pc := 41) dX11_word_41 rfl rfl ?_
      unfold wordS
      rw [if_pos (bt h13), if_neg (by show ¬ rdB I (gB G + 12) 90 < 4; omega), ← hR1]
      exact QY_full hI1
  · skip
    refine r_aload_n (pc := 16) dX11_word_16 rfl ?_
    refine r_bipush (pc := 17) dX11_word_17 (by decide) ?_
    refine i_V1ix (pc := 19) okX11_refuseBad inX11_refuseBad selX11_refuseBad q337 dX11_word_19 (by assumption) rfl (by decide) (Nat.le_of_ble_eq_true rfl) (sX11_refuseBad) ?_
    refine t_iret (pc := 22) dX11_word_22 rfl rfl ?_
    unfold wordS
    rw [if_neg (bf h13), ← hR1]
    exact QY_bad hI1

