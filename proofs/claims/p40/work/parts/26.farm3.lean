theorem sX2_feed {G : WG} {C : CF} {I : MI} {P : MP} {L : ML} {a : Nat} {Y : Int} {n : Bool} (hF : FarmL G C P a := by assumption) (hI : FI (rdF I a) Y := by assumption) (hW : WayL C P a (rdF I a) := by assumption) : SX2_feed G [.ref a, .int (zI (if n then 1 else 0))] C I P L (NI C (QFI a (lackF (rdF I a) n) I (feedF (rdF I a) n) P L)) := by
  obtain ⟨hB, hK, hK1, hK2, hK3, hP0, hP1, hP2, hP3, hfam⟩ := id hF
  obtain ⟨hs6, hsz⟩ := sizeF_le hI
  rw [← at_10] at hsz
  have h6 : 0 ≤ I a 6 ∧ I a 6 ≤ 9999 := hI.2.2.1
  generalize hq : QFI a (lackF (rdF I a) n) I (feedF (rdF I a) n) P L = q
  refine en_I (by decide +kernel) (Nat.le_of_ble_eq_true rfl) ?_
  change Wd _ _ _ _ _ _ _ _ 0 [some _, some _, none, none] [] _ _ _ _
  have loop : ∀ (d f : Nat) (i k : Int), f + d = sizeF (rdF I a) → i = (f : Int) → k = eatF (rdF I a) n f → Wd G yX2_feed cX2_feed 4 (some .int) 3 (C.2.1 + 0, C.2.2 + 0) (NI C q) 4 [some (.ref a), some (.int (zI (if n then 1 else 0))), some (.int (zI k)), some (.int (zI i))] [] C I P L := by
    intro d
    induction d using Nat.strongRecOn with
    | _ d ih =>
      intro f i k hd hi hk
      have hkr := eatF_in hI n f (by omega)
      refine r_iload_n (pc := 4) dX2_feed_4 rfl ?_
      refine r_aload_n (pc := 5) dX2_feed_5 rfl ?_
      refine r_getI (pc := 6) dX2_feed_6 frX2_54 (by assumption) ?_
      refine r_icmp_ge (pc := 9) 30 dX2_feed_9 (by decide) (by omega) (by omega) (fun h9 => ?_) (fun h9 => ?_)
      · skip
        refine r_iconst (pc := 30) dX2_feed_30 ?_
        refine r_iload_n (pc := 31) dX2_feed_31 rfl ?_
        refine r_aload_n (pc := 32) dX2_feed_32 rfl ?_
        refine r_getI (pc := 33) dX2_feed_33 frX2_42 (by assumption) ?_
        refine r_isub (pc := 36) dX2_feed_36 ?_
        refine r_max (pc := 37) q418 stamthmax inimth codmthmax (by decide) (Nat.le_of_ble_eq_true rfl) dX2_feed_37 (by omega) (by omega) ?_
        refine r_istore_n (pc := 40) dX2_feed_40 (by decide) ?_
        refine r_aload_n (pc := 41) dX2_feed_41 rfl ?_
        refine r_aload_n (pc := 42) dX2_feed_42 rfl ?_
        refine r_getI (pc := 43) dX2_feed_43 frX2_42 (by assumption) ?_
        refine r_iload_n (pc := 46) dX2_feed_46 rfl ?_
        refine r_isub (pc := 47) dX2_feed_47 ?_
        refine i_SN1ix (pc := 48) okX11_stored staX11_stored nwX2_130 dX2_feed_48 (by decide) (Nat.le_of_ble_eq_true rfl) (sX11_stored) ?_
        refine r_putI (pc := 51) dX2_feed_51 fwX2_42 (by assumption) (by omega) ?_
        refine r_iload_n (pc := 54) dX2_feed_54 rfl ?_
        refine t_iret (pc := 55) dX2_feed_55 rfl rfl ?_
        subst hq; exact ⟨by rw [lackF, show sizeF (rdF I a) = f by omega, ← hk, ← at_6], by rw [rd_6, feedF, show sizeF (rdF I a) = f by omega, ← hk, ← at_6], (outF.rf I a).u, rfl, rfl⟩
      · skip
        have hf6 : f < 6 := by omega
        have e2 := at_m I a hf6
        have ek := at_k I a hf6
        have hKf := (hfam f hf6).1
        obtain ⟨w, hPw, hKw⟩ := hW f hf6
        have hb := hI.2.2.2.2.2.2.2 f hf6
        rw [← e2, ← ek] at hb
        rw [← ek] at hKw
        refine r_iload_n (pc := 12) dX2_feed_12 rfl ?_
        refine r_aload_n (pc := 13) dX2_feed_13 rfl ?_
        refine r_iload_n (pc := 14) dX2_feed_14 rfl ?_
        refine i_V1rx (pc := 15) okX2_member inX2_member selX2_member q365 dX2_feed_15 (by assumption) rfl (by decide) (Nat.le_of_ble_eq_true rfl) (sX2_member (f := f)) ?_
        refine r_iload_n (pc := 18) dX2_feed_18 rfl ?_
        refine i_V1ix (pc := 19) okX1_needs inX1_needs selX1_needs q459 dX2_feed_19 (by assumption) rfl (by decide) (Nat.le_of_ble_eq_true rfl) (sX1_needs (k := I (a + 4 + f) 1) (w := w)) ?_
        refine r_iadd (pc := 22) dX2_feed_22 ?_
        refine r_istore_n (pc := 23) dX2_feed_23 (by decide) ?_
        refine r_iinc (pc := 24) dX2_feed_24 rfl ?_
        refine r_goto (pc := 27) 4 dX2_feed_27 (by decide) ?_
        exact ih (d - 1) (by omega) (f + 1) _ _ (by omega) (by omega) (by rw [eatF, ← ek, ← e2, hk])
  refine r_iconst (pc := 0) dX2_feed_0 ?_
  refine r_istore_n (pc := 1) dX2_feed_1 (by decide) ?_
  refine r_iconst (pc := 2) dX2_feed_2 ?_
  refine r_istore_n (pc := 3) dX2_feed_3 (by decide) ?_
  exact loop (sizeF (rdF I a)) 0 _ _ (by omega) (by omega) rfl
theorem sX2_warm {G : WG} {C : CF} {I : MI} {P : MP} {L : ML} {a : Nat} {Y : Int} (hF : FarmL G C P a := by assumption) (hI : FI (rdF I a) Y := by assumption) : SX2_warm G [.ref a] C I P L (NV C (QF a I (warmF (rdF I a) (sizeF (rdF I a))) P L)) := by
  obtain ⟨hB, hK, hK1, hK2, hK3, hP0, hP1, hP2, hP3, hfam⟩ := id hF
  obtain ⟨hs6, hsz⟩ := sizeF_le hI
  rw [← at_10] at hsz
  generalize hF' : warmF (rdF I a) = T
  generalize hq : QF a I (T (sizeF (rdF I a))) P L = q
  refine en_V (by decide +kernel) (Nat.le_of_ble_eq_true rfl) ?_
  change Wd _ _ _ _ _ _ _ _ 0 [some _, none, none] [] _ _ _ _
  have loop : ∀ (d f : Nat) (i : Int) (x : Option Value) (I1 : MI), f + d = sizeF (rdF I a) → i = (f : Int) → rdF I1 a = T f → outF I I1 a → Wd G yX2_warm cX2_warm 3 none 1 (C.2.1 + 0, C.2.2 + 0) (NV C q) 2 [some (.ref a), some (.int (zI i)), x] [] C I1 P L := by
    intro d
    induction d using Nat.strongRecOn with
    | _ d ih =>
      intro f i x I1 hd hi hT hO
      have hI1 : FI (rdF I1 a) Y := by rw [hT, ← hF']; exact FI_warm hI f (by omega)
      have h10 : I1 a 10 = I a 10 := by rw [at_10 I1 a, at_10 I a, hT, ← hF', fx_warm _ (by omega) (by omega)]
      have h9 : 0 ≤ I1 a 9 ∧ I1 a 9 ≤ 9999 := hI1.2.2.2.2.2.1
      have hw1 : warm1 (rdF I1 a) f = T (f + 1) := by rw [hT, ← hF']; rfl
      unfold warm1 at hw1
      rw [← at_9, ← at_12] at hw1
      refine r_iload_n (pc := 2) dX2_warm_2 rfl ?_
      refine r_aload_n (pc := 3) dX2_warm_3 rfl ?_
      refine r_getI (pc := 4) dX2_warm_4 frX2_54 (by assumption) ?_
      refine r_icmp_ge (pc := 7) 66 dX2_warm_7 (by decide) (by omega) (by omega) (fun h7 => ?_) (fun h7 => ?_)
      · skip
        refine t_vret (pc := 66) dX2_warm_66 rfl ?_
        subst hq; exact ⟨by rw [hT]; congr 1; omega, hO, rfl, rfl⟩
      · skip
        have hf6 : f < 6 := by omega
        have em := at_m I1 a hf6
        have hKf := (hfam f hf6).1
        have hb := hI1.2.2.2.2.2.2.2 f hf6
        rw [← em] at hb hw1
        have hne : ¬ (a + 4 + f = a) := by omega
        refine r_aload_n (pc := 10) dX2_warm_10 rfl ?_
        refine r_getI (pc := 11) dX2_warm_11 frX2_51 (by assumption) ?_
        refine r_if_le (pc := 14) 30 dX2_warm_14 (by decide) (by omega) (fun h14 => ?_) (fun h14 => ?_)
        · skip
          refine r_aload_n (pc := 30) dX2_warm_30 rfl ?_
          refine r_dup (pc := 31) dX2_warm_31 rfl ?_
          refine r_getI (pc := 32) dX2_warm_32 frX2_60 (by assumption) ?_
          refine r_iconst (pc := 35) dX2_warm_35 ?_
          refine r_iadd (pc := 36) dX2_warm_36 ?_
          refine r_putI (pc := 37) dX2_warm_37 fwX2_60 (by assumption) (by omega) ?_
          refine r_aload_n (pc := 40) dX2_warm_40 rfl ?_
          refine r_iload_n (pc := 41) dX2_warm_41 rfl ?_
          refine i_V1rx (pc := 42) okX2_member inX2_member selX2_member q365 dX2_warm_42 (by assumption) rfl (by decide) (Nat.le_of_ble_eq_true rfl) (sX2_member (f := f) (hf := by rw [u2_k _ _ _ _ (by decide)]; omega) (h6 := by rw [u2_k _ _ _ _ (by decide)]; omega)) ?_
          refine r_astore_n (pc := 45) dX2_warm_45 (by decide) ?_
          refine r_aload_n (pc := 46) dX2_warm_46 rfl ?_
          refine r_iconst (pc := 47) dX2_warm_47 ?_
          refine r_aload_n (pc := 48) dX2_warm_48 rfl ?_
          refine r_getI (pc := 49) dX2_warm_49 frX2_75 (by assumption) ?_
          try simp only [u2_app, true_and, and_true, and_false, false_and, and_self, Nat.reduceEqDiff, ↓reduceIte]
          refine r_iconst (pc := 52) dX2_warm_52 ?_
          refine r_isub (pc := 53) dX2_warm_53 ?_
          refine r_max (pc := 54) q418 stamthmax inimth codmthmax (by decide) (Nat.le_of_ble_eq_true rfl) dX2_warm_54 (by omega) (by omega) ?_
          refine r_putI (pc := 57) dX2_warm_57 fwX2_75 (by assumption) (by omega) ?_
          refine r_iinc (pc := 60) dX2_warm_60 rfl ?_
          refine r_goto (pc := 63) 2 dX2_warm_63 (by decide) ?_
          first
          | exact ih (d - 1) (by omega) (f + 1) _ _ _ (by omega) (by omega) (by rw [rd_9, ← hw1, if_pos (by omega)]) hO.u
          | exact ih (d - 1) (by omega) (f + 1) _ _ _ (by omega) (by omega) (by rw [rd_m _ _ _ hf6, rd_12, ← hw1, if_neg (by omega)]) hO.u.u
        · skip
          refine r_aload_n (pc := 17) dX2_warm_17 rfl ?_
          refine r_dup (pc := 18) dX2_warm_18 rfl ?_
          refine r_getI (pc := 19) dX2_warm_19 frX2_51 (by assumption) ?_
          refine r_iconst (pc := 22) dX2_warm_22 ?_
          refine r_isub (pc := 23) dX2_warm_23 ?_
          refine r_putI (pc := 24) dX2_warm_24 fwX2_51 (by assumption) (by omega) ?_
          refine r_goto (pc := 27) 60 dX2_warm_27 (by decide) ?_
          refine r_iinc (pc := 60) dX2_warm_60 rfl ?_
          refine r_goto (pc := 63) 2 dX2_warm_63 (by decide) ?_
          first
          | exact ih (d - 1) (by omega) (f + 1) _ _ _ (by omega) (by omega) (by rw [rd_9, ← hw1, if_pos (by omega)]) hO.u
          | exact ih (d - 1) (by omega) (f + 1) _ _ _ (by omega) (by omega) (by rw [rd_m _ _ _ hf6, rd_12, ← hw1, if_neg (by omega)]) hO.u.u
  refine r_iconst (pc := 0) dX2_warm_0 ?_
  refine r_istore_n (pc := 1) dX2_warm_1 (by decide) ?_
  exact loop (sizeF (rdF I a)) 0 _ _ _ (by omega) (by omega) (by rw [← hF']; rfl) (outF.rf I a)
theorem sX2_lose {G : WG} {C : CF} {I : MI} {P : MP} {L : ML} {a : Nat} {Y : Int} (hF : FarmL G C P a := by assumption) (hI : FI (rdF I a) Y := by assumption) (hY : Y ≤ 1000000 := by omega) : SX2_lose G [.ref a] C I P L (NV C (QF a I (loseF (rdF I a)) P L)) := by
  obtain ⟨hB, hK, hK1, hK2, hK3, hP0, hP1, hP2, hP3, hfam⟩ := id hF
  have hy : 0 ≤ I a 5 ∧ I a 5 ≤ Y := hI.2.1
  have h6 : 0 ≤ I a 6 ∧ I a 6 ≤ 9999 := hI.2.2.1
  have h7 : 0 ≤ I a 7 ∧ I a 7 ≤ 9999 := hI.2.2.2.1
  have h8 : 0 ≤ I a 8 ∧ I a 8 ≤ 9999 := hI.2.2.2.2.1
  refine en_V (by decide +kernel) (Nat.le_of_ble_eq_true rfl) ?_
  change Wd _ _ _ _ _ _ _ _ 0 [some _] [] _ _ _ _
  refine r_aload_n (pc := 0) dX2_lose_0 rfl ?_
  refine r_dup (pc := 1) dX2_lose_1 rfl ?_
  refine r_getI (pc := 2) dX2_lose_2 frX2_42 (by assumption) ?_
  refine r_aload_n (pc := 5) dX2_lose_5 rfl ?_
  refine r_getI (pc := 6) dX2_lose_6 frX2_42 (by assumption) ?_
  refine r_bipush (pc := 9) dX2_lose_9 (by decide) ?_
  refine r_idiv (pc := 11) dX2_lose_11 (by omega) (by omega) (by omega) (by omega) ?_
  refine r_isub (pc := 12) dX2_lose_12 ?_
  refine r_putI (pc := 13) dX2_lose_13 fwX2_42 (by assumption) (by omega) ?_
  refine r_aload_n (pc := 16) dX2_lose_16 rfl ?_
  refine r_dup (pc := 17) dX2_lose_17 rfl ?_
  refine r_getI (pc := 18) dX2_lose_18 frX2_45 (by assumption) ?_
  try simp only [u2_app, true_and, and_true, and_false, false_and, and_self, Nat.reduceEqDiff, ↓reduceIte]
  refine r_aload_n (pc := 21) dX2_lose_21 rfl ?_
  refine r_getI (pc := 22) dX2_lose_22 frX2_45 (by assumption) ?_
  try simp only [u2_app, true_and, and_true, and_false, false_and, and_self, Nat.reduceEqDiff, ↓reduceIte]
  refine r_bipush (pc := 25) dX2_lose_25 (by decide) ?_
  refine r_idiv (pc := 27) dX2_lose_27 (by omega) (by omega) (by omega) (by omega) ?_
  refine r_isub (pc := 28) dX2_lose_28 ?_
  refine r_putI (pc := 29) dX2_lose_29 fwX2_45 (by assumption) (by omega) ?_
  refine r_aload_n (pc := 32) dX2_lose_32 rfl ?_
  refine r_getI (pc := 33) dX2_lose_33 frX2_39 (by assumption) ?_
  try simp only [u2_app, true_and, and_true, and_false, false_and, and_self, Nat.reduceEqDiff, ↓reduceIte]
  refine r_iconst (pc := 36) dX2_lose_36 ?_
  refine r_irem (pc := 37) dX2_lose_37 (by omega) (by omega) (by omega) (by omega) ?_
  refine r_iconst (pc := 38) dX2_lose_38 ?_
  refine r_icmp_ne (pc := 39) 55 dX2_lose_39 (by decide) (by omega) (by omega) (fun h39 => ?_) (fun h39 => ?_)
  · skip
    refine t_vret (pc := 55) dX2_lose_55 rfl ?_
    first
    | exact ⟨by rw [rd_8, rd_7, rd_6, loseF, if_pos (by rw [← at_5]; omega)]; rfl, (outF.rf I a).u.u.u, rfl, rfl⟩
    | exact ⟨by rw [rd_7, rd_6, loseF, if_neg (by rw [← at_5]; omega)]; rfl, (outF.rf I a).u.u, rfl, rfl⟩
  · skip
    refine r_aload_n (pc := 42) dX2_lose_42 rfl ?_
    refine r_aload_n (pc := 43) dX2_lose_43 rfl ?_
    refine r_getI (pc := 44) dX2_lose_44 frX2_48 (by assumption) ?_
    try simp only [u2_app, true_and, and_true, and_false, false_and, and_self, Nat.reduceEqDiff, ↓reduceIte]
    refine r_iconst (pc := 47) dX2_lose_47 ?_
    refine r_isub (pc := 48) dX2_lose_48 ?_
    refine i_SN1ix (pc := 49) okX11_stored staX11_stored nwX2_130 dX2_lose_49 (by decide) (Nat.le_of_ble_eq_true rfl) (sX11_stored) ?_
    refine r_putI (pc := 52) dX2_lose_52 fwX2_48 (by assumption) (by omega) ?_
    refine t_vret (pc := 55) dX2_lose_55 rfl ?_
    first
    | exact ⟨by rw [rd_8, rd_7, rd_6, loseF, if_pos (by rw [← at_5]; omega)]; rfl, (outF.rf I a).u.u.u, rfl, rfl⟩
    | exact ⟨by rw [rd_7, rd_6, loseF, if_neg (by rw [← at_5]; omega)]; rfl, (outF.rf I a).u.u, rfl, rfl⟩
theorem sX2_forget {G : WG} {C : CF} {I : MI} {P : MP} {L : ML} {a : Nat} {Y : Int} (hF : FarmL G C P a := by assumption) (hI : FI (rdF I a) Y := by assumption) (hW : WayL C P a (rdF I a) := by assumption) : SX2_forget G [.ref a] C I P L (NV C (QF a I (forgF (rdF I a) (sizeF (rdF I a))) P L)) := by
  obtain ⟨hB, hK, hK1, hK2, hK3, hP0, hP1, hP2, hP3, hfam⟩ := id hF
  obtain ⟨hs6, hsz⟩ := sizeF_le hI
  rw [← at_10] at hsz
  generalize hF' : forgF (rdF I a) = T
  generalize hq : QF a I (T (sizeF (rdF I a))) P L = q
  refine en_V (by decide +kernel) (Nat.le_of_ble_eq_true rfl) ?_
  change Wd _ _ _ _ _ _ _ _ 0 [some _, none, none] [] _ _ _ _
  have loop : ∀ (d f : Nat) (i : Int) (x : Option Value) (I1 : MI), f + d = sizeF (rdF I a) → i = (f : Int) → rdF I1 a = T f → (∀ g, f ≤ g → rdF I1 a (9 + 4 * g) = rdF I a (9 + 4 * g)) → outF I I1 a → Wd G yX2_forget cX2_forget 3 none 1 (C.2.1 + 0, C.2.2 + 0) (NV C q) 2 [some (.ref a), some (.int (zI i)), x] [] C I1 P L := by
    intro d
    induction d using Nat.strongRecOn with
    | _ d ih =>
      intro f i x I1 hd hi hT hG hO
      have hI1 : FI (rdF I1 a) Y := by rw [hT, ← hF']; exact FI_forg hI f (by omega)
      have h10 : I1 a 10 = I a 10 := by rw [at_10 I1 a, at_10 I a, hT, ← hF', fx_forg _ (by omega)]
      refine r_iload_n (pc := 2) dX2_forget_2 rfl ?_
      refine r_aload_n (pc := 3) dX2_forget_3 rfl ?_
      refine r_getI (pc := 4) dX2_forget_4 frX2_54 (by assumption) ?_
      refine r_icmp_ge (pc := 7) 42 dX2_forget_7 (by decide) (by omega) (by omega) (fun h7 => ?_) (fun h7 => ?_)
      · skip
        refine t_vret (pc := 42) dX2_forget_42 rfl ?_
        subst hq; exact ⟨by rw [hT]; congr 1; omega, hO, rfl, rfl⟩
      · skip
        have hf6 : f < 6 := by omega
        have ek := at_k I1 a hf6
        have ey := at_y I1 a hf6
        have hKf := (hfam f hf6).1
        obtain ⟨w, hPw, hKw⟩ := hW f hf6
        have hkk : rdF I a (7 + 4 * f) = rdF I1 a (7 + 4 * f) := by rw [hT, ← hF', fx_forg _ (by omega)]
        rw [hkk, ← ek] at hKw
        have hb := hI1.2.2.2.2.2.2.2 f hf6
        rw [← ek, ← ey] at hb
        have hfk : 0 ≤ forgK (I1 (a + 4 + f) 1) ∧ forgK (I1 (a + 4 + f) 1) ≤ 1 := by unfold forgK; split <;> omega
        have hGf := hG f (Nat.le_refl f)
        refine r_aload_n (pc := 10) dX2_forget_10 rfl ?_
        refine r_iload_n (pc := 11) dX2_forget_11 rfl ?_
        refine i_V1rx (pc := 12) okX2_member inX2_member selX2_member q365 dX2_forget_12 (by assumption) rfl (by decide) (Nat.le_of_ble_eq_true rfl) (sX2_member (f := f)) ?_
        refine r_astore_n (pc := 15) dX2_forget_15 (by decide) ?_
        refine r_aload_n (pc := 16) dX2_forget_16 rfl ?_
        refine r_iconst (pc := 17) dX2_forget_17 ?_
        refine r_aload_n (pc := 18) dX2_forget_18 rfl ?_
        refine r_getI (pc := 19) dX2_forget_19 frX2_78 (by assumption) ?_
        refine r_aload_n (pc := 22) dX2_forget_22 rfl ?_
        refine r_getP (pc := 23) dX2_forget_23 frX2_81 (by assumption) (by assumption) ?_
        refine v_forgets (pc := 26) (k := I1 (a + 4 + f) 1) (by omega) (by assumption) q494 dX2_forget_26 (by decide) (Nat.le_of_ble_eq_true rfl) ?_
        refine r_isub (pc := 29) dX2_forget_29 ?_
        refine r_max (pc := 30) q418 stamthmax inimth codmthmax (by decide) (Nat.le_of_ble_eq_true rfl) dX2_forget_30 (by omega) (by omega) ?_
        refine r_putI (pc := 33) dX2_forget_33 fwX2_78 (by assumption) (by omega) ?_
        refine r_iinc (pc := 36) dX2_forget_36 rfl ?_
        refine r_goto (pc := 39) 2 dX2_forget_39 (by decide) ?_
        exact ih (d - 1) (by omega) (f + 1) _ _ _ (by omega) (by omega) (by rw [rd_y _ _ _ hf6, hT, ← hF', forgF, hkk, ← ek, ← hGf, ← ey]) (fun g hg => by rw [rd_y _ _ _ hf6, up_n _ _ (by omega)]; exact hG g (by omega)) hO.u
  refine r_iconst (pc := 0) dX2_forget_0 ?_
  refine r_istore_n (pc := 1) dX2_forget_1 (by decide) ?_
  exact loop (sizeF (rdF I a)) 0 _ _ _ (by omega) (by omega) (by rw [← hF']; rfl) (fun _ _ => rfl) (outF.rf I a)
theorem sX2_remember {G : WG} {C : CF} {I : MI} {P : MP} {L : ML} {a : Nat} {Y : Int} (hF : FarmL G C P a := by assumption) (hI : FI (rdF I a) Y := by assumption) : SX2_remember G [.ref a] C I P L (NV C (QF a I (remF (rdF I a) (sizeF (rdF I a))) P L)) := by
  obtain ⟨hB, hK, hK1, hK2, hK3, hP0, hP1, hP2, hP3, hfam⟩ := id hF
  obtain ⟨hs6, hsz⟩ := sizeF_le hI
  rw [← at_10] at hsz
  generalize hF' : remF (rdF I a) = T
  generalize hq : QF a I (T (sizeF (rdF I a))) P L = q
  refine en_V (by decide +kernel) (Nat.le_of_ble_eq_true rfl) ?_
  change Wd _ _ _ _ _ _ _ _ 0 [some _, none] [] _ _ _ _
  have loop : ∀ (d f : Nat) (i : Int) (I1 : MI), f + d = sizeF (rdF I a) → i = (f : Int) → rdF I1 a = T f → outF I I1 a → Wd G yX2_remember cX2_remember 2 none 1 (C.2.1 + 0, C.2.2 + 0) (NV C q) 2 [some (.ref a), some (.int (zI i))] [] C I1 P L := by
    intro d
    induction d using Nat.strongRecOn with
    | _ d ih =>
      intro f i I1 hd hi hT hO
      have h10 : I1 a 10 = I a 10 := by rw [at_10 I1 a, at_10 I a, hT, ← hF', fx_rem _ (by omega)]
      refine r_iload_n (pc := 2) dX2_remember_2 rfl ?_
      refine r_aload_n (pc := 3) dX2_remember_3 rfl ?_
      refine r_getI (pc := 4) dX2_remember_4 frX2_54 (by assumption) ?_
      refine r_icmp_ge (pc := 7) 26 dX2_remember_7 (by decide) (by omega) (by omega) (fun h7 => ?_) (fun h7 => ?_)
      · skip
        refine t_vret (pc := 26) dX2_remember_26 rfl ?_
        subst hq; exact ⟨by rw [hT]; congr 1; omega, hO, rfl, rfl⟩
      · skip
        have hf6 : f < 6 := by omega
        have hKf := (hfam f hf6).1
        refine r_aload_n (pc := 10) dX2_remember_10 rfl ?_
        refine r_iload_n (pc := 11) dX2_remember_11 rfl ?_
        refine i_V1rx (pc := 12) okX2_member inX2_member selX2_member q365 dX2_remember_12 (by assumption) rfl (by decide) (Nat.le_of_ble_eq_true rfl) (sX2_member (f := f)) ?_
        refine r_bipush (pc := 15) dX2_remember_15 (by decide) ?_
        refine r_putI (pc := 17) dX2_remember_17 fwX2_78 (by assumption) (by omega) ?_
        refine r_iinc (pc := 20) dX2_remember_20 rfl ?_
        refine r_goto (pc := 23) 2 dX2_remember_23 (by decide) ?_
        exact ih (d - 1) (by omega) (f + 1) _ _ (by omega) (by omega) (by rw [rd_y _ _ _ hf6, hT, ← hF', remF]) hO.u
  refine r_iconst (pc := 0) dX2_remember_0 ?_
  refine r_istore_n (pc := 1) dX2_remember_1 (by decide) ?_
  exact loop (sizeF (rdF I a)) 0 _ _ (by omega) (by omega) (by rw [← hF']; rfl) (outF.rf I a)
theorem lackF_in {F : Nat → Int} {Y : Int} (h : FI F Y) (n : Bool) : 0 ≤ lackF F n ∧ lackF F n ≤ 126 := by
  have h1 := eatF_in h n (sizeF F) (sizeF_le h).1
  have h2 := (sizeF_le h).1
  have h3 := h.2.2.1
  unfold lackF
  omega
theorem sownF_in {F : Nat → Int} {Y : Int} (h : FI F Y) : 0 ≤ sownF F ∧ sownF F ≤ 9999 := by
  have h1 := handsF_in h (sizeF F) (sizeF_le h).1
  have h2 := h.2.2.2.1
  have h3 := h.2.2.2.2.1
  unfold sownF
  omega
theorem wantF_in {F : Nat → Int} {Y : Int} (h : FI F Y) (bad : Bool) : 0 ≤ wantF F bad ∧ wantF F bad ≤ 126 := lackF_in (FI_pre h bad) _
theorem way_fx {C : CF} {P : MP} {a : Nat} {F F' : Nat → Int} (h : WayL C P a F) (hk : ∀ f, f < 6 → F' (7 + 4 * f) = F (7 + 4 * f)) : WayL C P a F' := by
  intro f hf
  obtain ⟨w, h1, h2⟩ := h f hf
  exact ⟨w, h1, by rw [hk f hf]; exact h2⟩
theorem iR_b (n : Bool) : iR (if n then 1 else 0) := by cases n <;> decide
theorem fx_g (F : Nat → Int) (bad n : Bool) {k : Nat} (hk : fixd k ∨ k = 31) : postF (feedF (preF F bad) n) n k = F k := by
  have hk2 : ¬ (7 ≤ k ∧ k % 4 = 1) ∧ ¬ (7 ≤ k ∧ k % 4 = 0) ∧ ¬ (2 ≤ k ∧ k ≤ 5) ∧ k ≠ 32 := by unfold fixd at hk; omega
  have h1 : preF F bad k = F k := by
    unfold preF
    split
    · exact fx_harv F _ (by omega)
    · exact fx_work F (by omega) (by omega) _
  have h2 : feedF (preF F bad) n k = F k := by rw [fx_feed _ _ (by omega)]; exact h1
  unfold postF
  split
  · rw [fx_rem _ (by omega)]; exact h2
  · rw [fx_forg _ (by omega), fx_lose _ (by omega), fx_warm _ (by omega) (by omega)]; exact h2
theorem sX2_goBy {G : WG} {C : CF} {I : MI} {P : MP} {L : ML} {a : Nat} {Y : Int} {bad : Bool} (hF : FarmL G C P a := by assumption) (hI : FI (rdF I a) Y := by assumption) (hY : Y ≤ 1000000 := by omega) (hW : WayL C P a (rdF I a) := by assumption) : SX2_goBy G [.ref a, .int (zI (if bad then 1 else 0))] C I P L (NI C (QFI a (wantF (rdF I a) bad) I (goF (rdF I a) bad) P L)) := by
  obtain ⟨hB, hK, hK1, hK2, hK3, hP0, hP1, hP2, hP3, hfam⟩ := id hF
  have hy : 0 ≤ I a 5 ∧ I a 5 ≤ Y := hI.2.1
  have hs : 2 ≤ I a 4 ∧ I a 4 ≤ 70 := hI.1
  have hsw := sownF_in hI
  have pre_ok : ∀ I1 : MI, rdF I1 a = preF (rdF I a) bad → FI (rdF I1 a) Y ∧ WayL C P a (rdF I1 a) := fun I1 h => by
    rw [h]; exact ⟨FI_pre hI bad, way_fx hW (fun f hf => fx_pre _ _ (by unfold fixd; omega))⟩
  generalize hn : noonF (rdF I a) (I a 5) = n
  have hn' : noonF (rdF I a) (rdF I a 1) = n := hn
  generalize hq : QFI a (wantF (rdF I a) bad) I (goF (rdF I a) bad) P L = q
  have tail : ∀ (I1 : MI), rdF I1 a = preF (rdF I a) bad → outF I I1 a → Wd G yX2_goBy cX2_goBy 4 (some .int) 4 (C.2.1 + 0, C.2.2 + 0) (NI C q) 41 [some (.ref a), some (.int (zI (if bad then 1 else 0))), some (.int (zI (if n then 1 else 0))), none] [] C I1 P L := by
    intro I1 hT hO
    obtain ⟨hI1, hW1⟩ := pre_ok I1 hT
    refine r_aload_n (pc := 41) dX2_goBy_41 rfl ?_
    refine r_iload_n (pc := 42) dX2_goBy_42 rfl ?_
    refine i_V1ig (pc := 43) okX2_feed inX2_feed selX2_feed q455 dX2_goBy_43 (by assumption) rfl (by decide) (Nat.le_of_ble_eq_true rfl) (sX2_feed (n := n)) (fun r1 I2 P2 L2 hq2 => ?_)
    obtain ⟨rfl, hT2, hO2, rfl, rfl⟩ := hq2
    have hI2 : FI (rdF I2 a) Y := by rw [hT2]; exact FI_feed hI1 n
    have hW2 : WayL C P a (rdF I2 a) := by rw [hT2]; exact way_fx hW1 (fun f hf => fx_feed _ _ (by omega))
    have hlk := lackF_in hI1 n
    have hex : lackF (rdF I1 a) n = wantF (rdF I a) bad := by rw [hT, wantF, hn']
    refine r_istore_n (pc := 46) dX2_goBy_46 (by decide) ?_
    refine r_iload_n (pc := 47) dX2_goBy_47 rfl ?_
    refine r_if_eq (pc := 48) 58 dX2_goBy_48 (by decide) (by first | omega | exact iR_b _) (fun h48 => ?_) (fun h48 => ?_)
    · skip
      refine r_aload_n (pc := 58) dX2_goBy_58 rfl ?_
      refine i_V0vg (pc := 59) okX2_warm inX2_warm selX2_warm q482 dX2_goBy_59 (by assumption) rfl (by decide) (Nat.le_of_ble_eq_true rfl) (sX2_warm) (fun I3 P3 L3 hq3 => ?_)
      obtain ⟨hT3, hO3, rfl, rfl⟩ := hq3
      have hI3 : FI (rdF I3 a) Y := by rw [hT3]; exact FI_warm hI2 _ (sizeF_le hI2).1
      have hW3 : WayL C P a (rdF I3 a) := by rw [hT3]; exact way_fx hW2 (fun f hf => fx_warm _ (by omega) (by omega) _)
      refine r_aload_n (pc := 62) dX2_goBy_62 rfl ?_
      refine i_V0vg (pc := 63) okX2_lose inX2_lose selX2_lose q486 dX2_goBy_63 (by assumption) rfl (by decide) (Nat.le_of_ble_eq_true rfl) (sX2_lose) (fun I4 P4 L4 hq4 => ?_)
      obtain ⟨hT4, hO4, rfl, rfl⟩ := hq4
      have hI4 : FI (rdF I4 a) Y := by rw [hT4]; exact FI_lose hI3
      have hW4 : WayL C P a (rdF I4 a) := by rw [hT4]; exact way_fx hW3 (fun f hf => fx_lose _ (by omega))
      refine r_aload_n (pc := 66) dX2_goBy_66 rfl ?_
      refine i_V0vg (pc := 67) okX2_forget inX2_forget selX2_forget q490 dX2_goBy_67 (by assumption) rfl (by decide) (Nat.le_of_ble_eq_true rfl) (sX2_forget) (fun I5 P5 L5 hq5 => ?_)
      obtain ⟨hT5, hO5, rfl, rfl⟩ := hq5
      refine r_aload_n (pc := 70) dX2_goBy_70 rfl ?_
      refine r_dup (pc := 71) dX2_goBy_71 rfl ?_
      refine r_getI (pc := 72) dX2_goBy_72 frX2_57 (by assumption) ?_
      refine r_iload_n (pc := 75) dX2_goBy_75 rfl ?_
      refine r_iadd (pc := 76) dX2_goBy_76 ?_
      refine r_putI (pc := 77) dX2_goBy_77 fwX2_57 (by assumption) (by first | omega | exact iR_b _) ?_
      refine r_aload_n (pc := 80) dX2_goBy_80 rfl ?_
      refine r_dup (pc := 81) dX2_goBy_81 rfl ?_
      refine r_getI (pc := 82) dX2_goBy_82 frX2_39 (by assumption) ?_
      try simp only [u2_app, true_and, and_true, and_false, false_and, and_self, Nat.reduceEqDiff, ↓reduceIte]
      refine r_iconst (pc := 85) dX2_goBy_85 ?_
      refine r_iadd (pc := 86) dX2_goBy_86 ?_
      refine r_putI (pc := 87) dX2_goBy_87 fwX2_39 (by assumption) (by first | omega | exact iR_b _) ?_
      refine r_iload_n (pc := 90) dX2_goBy_90 rfl ?_
      refine t_iret (pc := 91) dX2_goBy_91 rfl rfl ?_
      subst hq
      have hp : rdF I5 a = postF (feedF (preF (rdF I a) bad) n) n := by
        have hz3 : sizeF (rdF I4 a) = sizeF (rdF I2 a) := sz_same (by rw [hT4, hT3, fx_lose _ (by omega), fx_warm _ (by omega) (by omega)])
        rw [hT5, hz3, hT4, hT3, hT2, hT]; cases n <;> simp_all [postF]
      refine ⟨hex, ?_, (hO.tr (hO2.tr (hO3.tr (hO4.tr hO5)))).u.u, rfl, rfl⟩
      rw [rd_5, rd_11, at_11 I5 a, at_5 I5 a, hp, fx_g _ _ _ (Or.inr rfl), fx_g _ _ _ (by unfold fixd; omega), hex, goF, hn']
    · skip
      refine r_aload_n (pc := 51) dX2_goBy_51 rfl ?_
      refine i_V0vg (pc := 52) okX2_remember inX2_remember selX2_remember q478 dX2_goBy_52 (by assumption) rfl (by decide) (Nat.le_of_ble_eq_true rfl) (sX2_remember) (fun I3 P3 L3 hq3 => ?_)
      obtain ⟨hT3, hO3, rfl, rfl⟩ := hq3
      refine r_goto (pc := 55) 70 dX2_goBy_55 (by decide) ?_
      refine r_aload_n (pc := 70) dX2_goBy_70 rfl ?_
      refine r_dup (pc := 71) dX2_goBy_71 rfl ?_
      refine r_getI (pc := 72) dX2_goBy_72 frX2_57 (by assumption) ?_
      refine r_iload_n (pc := 75) dX2_goBy_75 rfl ?_
      refine r_iadd (pc := 76) dX2_goBy_76 ?_
      refine r_putI (pc := 77) dX2_goBy_77 fwX2_57 (by assumption) (by first | omega | exact iR_b _) ?_
      refine r_aload_n (pc := 80) dX2_goBy_80 rfl ?_
      refine r_dup (pc := 81) dX2_goBy_81 rfl ?_
      refine r_getI (pc := 82) dX2_goBy_82 frX2_39 (by assumption) ?_
      try simp only [u2_app, true_and, and_true, and_false, false_and, and_self, Nat.reduceEqDiff, ↓reduceIte]
      refine r_iconst (pc := 85) dX2_goBy_85 ?_
      refine r_iadd (pc := 86) dX2_goBy_86 ?_
      refine r_putI (pc := 87) dX2_goBy_87 fwX2_39 (by assumption) (by first | omega | exact iR_b _) ?_
      refine r_iload_n (pc := 90) dX2_goBy_90 rfl ?_
      refine t_iret (pc := 91) dX2_goBy_91 rfl rfl ?_
      subst hq
      have hp : rdF I3 a = postF (feedF (preF (rdF I a) bad) n) n := by
        rw [hT3, hT2, hT]; cases n <;> simp_all [postF]
      refine ⟨hex, ?_, (hO.tr (hO2.tr hO3)).u.u, rfl, rfl⟩
      rw [rd_5, rd_11, at_11 I3 a, at_5 I3 a, hp, fx_g _ _ _ (Or.inr rfl), fx_g _ _ _ (by unfold fixd; omega), hex, goF, hn']
  refine en_I (by decide +kernel) (Nat.le_of_ble_eq_true rfl) ?_
  change Wd _ _ _ _ _ _ _ _ 0 [some _, some _, none, none] [] _ _ _ _
  refine r_aload_n (pc := 0) dX2_goBy_0 rfl ?_
  refine r_aload_n (pc := 1) dX2_goBy_1 rfl ?_
  refine r_getI (pc := 2) dX2_goBy_2 frX2_39 (by assumption) ?_
  refine i_V1ix (pc := 5) okX2_isNoon inX2_isNoon selX2_isNoon q378 dX2_goBy_5 (by assumption) rfl (by decide) (Nat.le_of_ble_eq_true rfl) (sX2_isNoon) ?_
  rw [hn]
  refine r_istore_n (pc := 8) dX2_goBy_8 (by decide) ?_
  refine r_iload_n (pc := 9) dX2_goBy_9 rfl ?_
  refine r_if_eq (pc := 10) 37 dX2_goBy_10 (by decide) (by first | omega | exact iR_b _) (fun h10 => ?_) (fun h10 => ?_)
  · skip
    refine r_aload_n (pc := 37) dX2_goBy_37 rfl ?_
    refine i_V0vg (pc := 38) okX2_work inX2_work selX2_work q399 dX2_goBy_38 (by assumption) rfl (by decide) (Nat.le_of_ble_eq_true rfl) (sX2_work) (fun I1 P1 L1 hq1 => ?_)
    obtain ⟨hT1, hO1, rfl, rfl⟩ := hq1
    refine tail I1 ?_ hO1
    rw [hT1]; cases n <;> cases bad <;> simp_all [preF]
  · skip
    refine r_aload_n (pc := 13) dX2_goBy_13 rfl ?_
    refine r_iload_n (pc := 14) dX2_goBy_14 rfl ?_
    refine r_if_eq (pc := 15) 27 dX2_goBy_15 (by decide) (by first | omega | exact iR_b _) (fun h15 => ?_) (fun h15 => ?_)
    · skip
      refine r_aload_n (pc := 27) dX2_goBy_27 rfl ?_
      refine i_V0ix (pc := 28) okX2_sown inX2_sown selX2_sown q383 dX2_goBy_28 (by assumption) rfl (by decide) (Nat.le_of_ble_eq_true rfl) (sX2_sown) ?_
      refine i_V1vg (pc := 31) okX2_harvest inX2_harvest selX2_harvest q388 dX2_goBy_31 (by assumption) rfl (by decide) (Nat.le_of_ble_eq_true rfl) (sX2_harvest) (fun I1 P1 L1 hq1 => ?_)
      obtain ⟨hT1, hO1, rfl, rfl⟩ := hq1
      refine r_goto (pc := 34) 41 dX2_goBy_34 (by decide) ?_
      refine tail I1 ?_ hO1
      rw [hT1]; cases n <;> cases bad <;> simp_all [preF]
    · skip
      refine r_aload_n (pc := 18) dX2_goBy_18 rfl ?_
      refine i_V0ix (pc := 19) okX2_sown inX2_sown selX2_sown q383 dX2_goBy_19 (by assumption) rfl (by decide) (Nat.le_of_ble_eq_true rfl) (sX2_sown) ?_
      refine r_iconst (pc := 22) dX2_goBy_22 ?_
      refine r_idiv (pc := 23) dX2_goBy_23 (by first | omega | exact iR_b _) (by first | omega | exact iR_b _) (by first | omega | exact iR_b _) (by first | omega | exact iR_b _) ?_
      refine r_goto (pc := 24) 31 dX2_goBy_24 (by decide) ?_
      refine i_V1vg (pc := 31) okX2_harvest inX2_harvest selX2_harvest q388 dX2_goBy_31 (by assumption) rfl (by decide) (Nat.le_of_ble_eq_true rfl) (sX2_harvest) (fun I1 P1 L1 hq1 => ?_)
      obtain ⟨hT1, hO1, rfl, rfl⟩ := hq1
      refine r_goto (pc := 34) 41 dX2_goBy_34 (by decide) ?_
      refine tail I1 ?_ hO1
      rw [hT1]; cases n <;> cases bad <;> simp_all [preF]


