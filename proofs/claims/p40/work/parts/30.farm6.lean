/-! back to an earlier year; a family more -/
def bakN (F H : Nat → Int) (n : Nat) : Nat → Int := fun k => if 7 ≤ k ∧ k < 7 + 4 * n ∧ (k % 4 = 0 ∨ k % 4 = 1) then H k else F k
theorem bakN_up (F H : Nat → Int) (n : Nat) : up (up (bakN F H n) (8 + 4 * n) (H (8 + 4 * n))) (9 + 4 * n) (H (9 + 4 * n)) = bakN F H (n + 1) := by
  funext k
  simp only [up_app, bakN]
  by_cases h3 : k = 9 + 4 * n
  · subst h3; rw [if_pos rfl, if_pos (by omega)]
  rw [if_neg h3]
  by_cases h2 : k = 8 + 4 * n
  · subst h2; rw [if_pos rfl, if_pos (by omega)]
  rw [if_neg h2]
  (repeat' split) <;> first | (exfalso; omega) | rfl
def bakF (F H : Nat → Int) : Nat → Int := timeF (bakN F H (sizeF H)) H
theorem bakF_app (F H : Nat → Int) (k : Nat) : bakF F H k = if (1 ≤ k ∧ k ≤ 5) ∨ k = 31 ∨ k = 32 ∨ (7 ≤ k ∧ k < 7 + 4 * sizeF H ∧ (k % 4 = 0 ∨ k % 4 = 1)) then H k else F k := by
  simp only [bakF, timeF, bakN]
  (repeat' split) <;> first | (exfalso; omega) | rfl
theorem FI_bak {F H : Nat → Int} {Y Y2 : Int} (h : FI F Y) (h2 : FI H Y2) : FI (bakF F H) Y2 := by
  obtain ⟨a0, a1, a2, a3, a4, a5, a6, a7⟩ := h
  obtain ⟨hs, hs2⟩ := sizeF_le h2
  obtain ⟨b0, b1, b2, b3, b4, b5, b6, b7⟩ := h2
  refine ⟨by rw [bakF_app, if_neg (by omega)]; exact a0, by rw [bakF_app, if_pos (by omega)]; exact b1, by rw [bakF_app, if_pos (by omega)]; exact b2, by rw [bakF_app, if_pos (by omega)]; exact b3, by rw [bakF_app, if_pos (by omega)]; exact b4, by rw [bakF_app, if_pos (by omega)]; exact b5, by rw [bakF_app, if_neg (by omega)]; exact a6, fun f hf => ?_⟩
  have h7 := a7 f hf
  rw [bakF_app F H 6, if_neg (by omega), bakF_app F H (7 + 4 * f), if_neg (by omega), bakF_app F H (10 + 4 * f), if_neg (by omega)]
  by_cases hl : f < sizeF H
  · rw [bakF_app, if_pos (by omega), bakF_app, if_pos (by omega)]
    have g7 := b7 f hf
    exact ⟨h7.1, g7.2.1, g7.2.2.1, h7.2.2.2.1, fun _ => g7.2.2.2.2 (by omega)⟩
  · rw [bakF_app, if_neg (by omega), bakF_app, if_neg (by omega)]
    exact h7
theorem sX2_goBackTo {G : WG} {C : CF} {I : MI} {P : MP} {L : ML} {a b : Nat} {Y : Int} (hF : FarmL G C P a := by assumption) (hF2 : FarmL G C P b := by assumption) (hI1 : FI (rdF I a) Y := by assumption) (hI2 : FI (rdF I b) Y := by assumption) (hle : rdF I b 6 ≤ rdF I a 6 := by assumption) (hab : b + 10 ≤ a ∨ a + 10 ≤ b := by omega) : SX2_goBackTo G [.ref a, .ref b] C I P L (NV C (QF a I (bakF (rdF I a) (rdF I b)) P L)) := by
  obtain ⟨hB, hK, hK1, hK2, hK3, hP0, hP1, hP2, hP3, hfam⟩ := id hF
  obtain ⟨xB, xK, xK1, xK2, xK3, xP0, xP1, xP2, xP3, xfam⟩ := id hF2
  obtain ⟨hs6, hsz⟩ := sizeF_le hI2
  obtain ⟨ht6, htz⟩ := sizeF_le hI1
  generalize hH : rdF I b = H at *
  generalize hFF : rdF I a = F at *
  generalize hq : QF a I (bakF F H) P L = q
  refine en_V (by decide +kernel) (Nat.le_of_ble_eq_true rfl) ?_
  change Wd _ _ _ _ _ _ _ _ 0 [some _, some _, none, none, none] [] _ _ _ _
  have loop : ∀ (d f : Nat) (i : Int) (x y : Option Value) (I1 : MI), f + d = sizeF H → i = (f : Int) → rdF I1 a = bakN F H f → outF I I1 a → Wd G yX2_goBackTo cX2_goBackTo 5 none 1 (C.2.1 + 0, C.2.2 + 0) (NV C q) 2 [some (.ref a), some (.ref b), some (.int (zI i)), x, y] [] C I1 P L := by
    intro d
    induction d using Nat.strongRecOn with
    | _ d ih =>
      intro f i x y I1 hd hi hT hO
      have hHb : rdF I1 b = H := by rw [rdF_out hO (by omega), hH]
      have h10 : I1 a 10 = F 6 := by rw [at_10 I1 a, hT, bakN, if_neg (by omega)]
      have h10b : I1 b 10 = H 6 := by rw [at_10 I1 b, hHb]
      refine r_iload_n (pc := 2) dX2_goBackTo_2 rfl ?_
      refine r_aload_n (pc := 3) dX2_goBackTo_3 rfl ?_
      refine r_getI (pc := 4) dX2_goBackTo_4 frX2_54 (by assumption) ?_
      refine r_icmp_ge (pc := 7) 47 dX2_goBackTo_7 (by decide) (by omega) (by omega) (fun h7 => ?_) (fun h7 => ?_)
      · skip
        refine r_aload_n (pc := 47) dX2_goBackTo_47 rfl ?_
        refine r_aload_n (pc := 48) dX2_goBackTo_48 rfl ?_
        refine i_V1vg (pc := 49) okX2_setTimeTo inX2_setTimeTo selX2_setTimeTo q370 dX2_goBackTo_49 (by assumption) rfl (by decide) (Nat.le_of_ble_eq_true rfl) (sX2_setTimeTo) (fun I3 P3 L3 hq3 => ?_)
        obtain ⟨hT3, hO3, rfl, rfl⟩ := hq3
        refine t_vret (pc := 52) dX2_goBackTo_52 rfl ?_
        have hsf : sizeF H = f := by omega
        subst hq
        exact ⟨by rw [hT3, hT, hHb, bakF, hsf], hO.tr hO3, rfl, rfl⟩
      · skip
        have hf6 : f < 6 := by omega
        have hKf := (hfam f hf6).1
        have xKf := (xfam f hf6).1
        have em := at_m I1 b hf6
        have ey := at_y I1 b hf6
        rw [hHb] at em ey
        refine r_aload_n (pc := 10) dX2_goBackTo_10 rfl ?_
        refine r_iload_n (pc := 11) dX2_goBackTo_11 rfl ?_
        refine i_V1rx (pc := 12) okX2_member inX2_member selX2_member q365 dX2_goBackTo_12 (by assumption) rfl (by decide) (Nat.le_of_ble_eq_true rfl) (sX2_member (f := f)) ?_
        refine r_astore_n (pc := 15) dX2_goBackTo_15 (by decide) ?_
        refine r_aload_n (pc := 16) dX2_goBackTo_16 rfl ?_
        refine r_iload_n (pc := 17) dX2_goBackTo_17 rfl ?_
        refine i_V1rx (pc := 18) okX2_member inX2_member selX2_member q365 dX2_goBackTo_18 (by assumption) rfl (by decide) (Nat.le_of_ble_eq_true rfl) (sX2_member (f := f)) ?_
        refine r_astore (pc := 21) dX2_goBackTo_21 (by decide) ?_
        refine r_aload_n (pc := 23) dX2_goBackTo_23 rfl ?_
        refine r_aload (pc := 24) dX2_goBackTo_24 rfl ?_
        refine r_getI (pc := 26) dX2_goBackTo_26 frX2_75 (by assumption) ?_
        refine r_putI (pc := 29) dX2_goBackTo_29 fwX2_75 (by assumption) (by omega) ?_
        refine r_aload_n (pc := 32) dX2_goBackTo_32 rfl ?_
        refine r_aload (pc := 33) dX2_goBackTo_33 rfl ?_
        refine r_getI (pc := 35) dX2_goBackTo_35 frX2_78 (by assumption) ?_
        try simp only [u2_app, true_and, and_true, and_false, false_and, and_self, Nat.reduceEqDiff, ↓reduceIte]
        refine r_putI (pc := 38) dX2_goBackTo_38 fwX2_78 (by assumption) (by omega) ?_
        refine r_iinc (pc := 41) dX2_goBackTo_41 rfl ?_
        refine r_goto (pc := 44) 2 dX2_goBackTo_44 (by decide) ?_
        exact ih (d - 1) (by omega) (f + 1) _ _ _ _ (by omega) (by omega) (by rw [rd_y _ _ _ hf6, rd_m _ _ _ hf6, em, ey, hT, bakN_up]) hO.u.u
  refine r_iconst (pc := 0) dX2_goBackTo_0 ?_
  refine r_istore_n (pc := 1) dX2_goBackTo_1 (by decide) ?_
  refine loop (sizeF H) 0 _ _ _ _ (by omega) (by omega) ?_ (outF.rf I a)
  rw [hFF]
  funext k
  rw [bakN, if_neg (by omega)]
def setlF (F : Nat → Int) (n : Nat) (k m y : Int) : Nat → Int := up (up (up (up (up F 6 (F 6 + 1)) (7 + 4 * n) k) (8 + 4 * n) m) (9 + 4 * n) y) (10 + 4 * n) 0
theorem FI_setl {F : Nat → Int} {Y k m y : Int} (h : FI F Y) (hs : F 6 < 6) (hk : 0 ≤ k ∧ k ≤ 4) (hm : 1 ≤ m ∧ m ≤ 20) (hy : 0 ≤ y ∧ y ≤ 9) : FI (setlF F (sizeF F) k m y) Y := by
  obtain ⟨hs6, hsz⟩ := sizeF_le h
  obtain ⟨a0, a1, a2, a3, a4, a5, a6, a7⟩ := h
  generalize sizeF F = n at hs6 hsz
  unfold setlF
  refine ⟨by simp only [up_app]; (repeat' split) <;> first | omega | (exfalso; omega), by simp only [up_app]; (repeat' split) <;> first | omega | (exfalso; omega), by simp only [up_app]; (repeat' split) <;> first | omega | (exfalso; omega), by simp only [up_app]; (repeat' split) <;> first | omega | (exfalso; omega), by simp only [up_app]; (repeat' split) <;> first | omega | (exfalso; omega), by simp only [up_app]; (repeat' split) <;> first | omega | (exfalso; omega), by simp only [up_app]; (repeat' split) <;> first | omega | (exfalso; omega), fun f hf => ?_⟩
  have h7 := a7 f hf
  have e6 : (up (up (up (up (up F 6 (F 6 + 1)) (7 + 4 * n) k) (8 + 4 * n) m) (9 + 4 * n) y) (10 + 4 * n) 0) 6 = F 6 + 1 := by
    rw [up_n _ _ (by omega), up_n _ _ (by omega), up_n _ _ (by omega), up_n _ _ (by omega), up_s]
  rw [e6]
  refine ⟨?_, ?_, ?_, ?_, ?_⟩
  · simp only [up_app]; (repeat' split) <;> omega
  · simp only [up_app]; (repeat' split) <;> omega
  · simp only [up_app]; (repeat' split) <;> omega
  · simp only [up_app]; (repeat' split) <;> omega
  · simp only [up_app]; (repeat' split) <;> omega
theorem sX2_settle {G : WG} {C : CF} {I : MI} {P : MP} {L : ML} {a : Nat} {Y k m y : Int} (hF : FarmL G C P a := by assumption) (hKd : KindL G C P := by assumption) (hI : FI (rdF I a) Y := by assumption) (hW : WayL C P a (rdF I a) := by assumption) (hs : rdF I a 6 < 6 := by assumption) (hk : 0 ≤ k ∧ k ≤ 4 := by omega) : SX2_settle G [.ref a, .int (zI k), .int (zI m), .int (zI y)] C I P L (NI C (QPI a (rdF I a 6) I (setlF (rdF I a) (sizeF (rdF I a)) k m y) C P L)) := by
  obtain ⟨hB, hK, hK1, hK2, hK3, hP0, hP1, hP2, hP3, hfam⟩ := id hF
  obtain ⟨hs6, hsz⟩ := sizeF_le hI
  have h06 : 0 ≤ rdF I a 6 := hI.2.2.2.2.2.2.1.1
  generalize hf : sizeF (rdF I a) = f at hs6 hsz
  have hf6 : f < 6 := by omega
  have hKf := (hfam f hf6).1
  have h10 : I a 10 = f := by rw [at_10 I a]; omega
  obtain ⟨n, rfl⟩ : ∃ n : Nat, k = n := ⟨k.toNat, by omega⟩
  have hkP := (hKd.2 n (by omega)).1
  have hkK := (hKd.2 n (by omega)).2
  have hKi := hKd.1
  generalize hq : QPI a (rdF I a 6) I (setlF (rdF I a) f (n : Int) m y) C P L = q
  refine en_I (by decide +kernel) (Nat.le_of_ble_eq_true rfl) ?_
  change Wd _ _ _ _ _ _ _ _ 0 [some _, some _, some _, some _, none, none, none] [] _ _ _ _
  refine r_aload_n (pc := 0) dX2_settle_0 rfl ?_
  refine r_getI (pc := 1) dX2_settle_1 frX2_54 (by assumption) ?_
  refine r_istore (pc := 4) dX2_settle_4 (by decide) ?_
  refine r_aload_n (pc := 6) dX2_settle_6 rfl ?_
  refine r_dup (pc := 7) dX2_settle_7 rfl ?_
  refine r_getI (pc := 8) dX2_settle_8 frX2_54 (by assumption) ?_
  refine r_iconst (pc := 11) dX2_settle_11 ?_
  refine r_iadd (pc := 12) dX2_settle_12 ?_
  refine r_putI (pc := 13) dX2_settle_13 fwX2_54 (by assumption) (by omega) ?_
  refine r_aload_n (pc := 16) dX2_settle_16 rfl ?_
  refine r_iload (pc := 17) dX2_settle_17 rfl ?_
  refine i_V1rx (pc := 19) okX2_member inX2_member selX2_member q365 dX2_settle_19 (by assumption) rfl (by decide) (Nat.le_of_ble_eq_true rfl) (sX2_member (f := f) (hf := by rw [u2_s]; omega) (h6 := by rw [u2_s]; omega)) ?_
  refine r_astore (pc := 22) dX2_settle_22 (by decide) ?_
  refine r_iload_n (pc := 24) dX2_settle_24 rfl ?_
  refine r_if_lt (pc := 25) 46 dX2_settle_25 (by decide) (by omega) (fun h25 => ?_) (fun h25 => ?_)
  · exfalso; omega
  · skip
    refine r_iload_n (pc := 28) dX2_settle_28 rfl ?_
    refine r_aload_n (pc := 29) dX2_settle_29 rfl ?_
    refine r_getA (pc := 30) dX2_settle_30 frX2_17 (by assumption) (by assumption) ?_
    refine r_alen (pc := 33) dX2_settle_33 (by assumption) ?_
    refine r_icmp_ge (pc := 34) 46 dX2_settle_34 (by decide) (by omega) (by omega) (fun h34 => ?_) (fun h34 => ?_)
    · exfalso; omega
    · skip
      refine r_aload_n (pc := 37) dX2_settle_37 rfl ?_
      refine r_getA (pc := 38) dX2_settle_38 frX2_17 (by assumption) (by assumption) ?_
      refine r_iload_n (pc := 41) dX2_settle_41 rfl ?_
      refine r_aald (j := n) (pc := 42) dX2_settle_42 (by assumption) (by decide) (by omega) (by omega) (by omega) (by assumption) ?_
      refine r_goto (pc := 43) 50 dX2_settle_43 (by decide) ?_
      refine r_astore (pc := 50) dX2_settle_50 (by decide) ?_
      refine r_aload (pc := 52) dX2_settle_52 rfl ?_
      refine r_aload (pc := 54) dX2_settle_54 rfl ?_
      refine r_ifnonnull (pc := 56) 66 dX2_settle_56 (by decide) ?_
      refine r_aload (pc := 66) dX2_settle_66 rfl ?_
      refine r_putP (pc := 68) dX2_settle_68 fwX2_81 (by assumption) (by omega) ?_
      refine r_aload (pc := 71) dX2_settle_71 rfl ?_
      refine r_iload_n (pc := 73) dX2_settle_73 rfl ?_
      refine r_putI (pc := 74) dX2_settle_74 fwX2_84 (by assumption) (by omega) ?_
      refine r_aload (pc := 77) dX2_settle_77 rfl ?_
      refine r_iload_n (pc := 79) dX2_settle_79 rfl ?_
      refine r_putI (pc := 80) dX2_settle_80 fwX2_75 (by assumption) (by omega) ?_
      refine r_aload (pc := 83) dX2_settle_83 rfl ?_
      refine r_iload_n (pc := 85) dX2_settle_85 rfl ?_
      refine r_putI (pc := 86) dX2_settle_86 fwX2_78 (by assumption) (by omega) ?_
      refine r_aload (pc := 89) dX2_settle_89 rfl ?_
      refine r_iconst (pc := 91) dX2_settle_91 ?_
      refine r_putI (pc := 92) dX2_settle_92 fwX2_87 (by assumption) (by omega) ?_
      refine r_iload (pc := 95) dX2_settle_95 rfl ?_
      refine t_iret (pc := 97) dX2_settle_97 rfl rfl ?_
      subst hq
      refine ⟨h10.trans hsz, ?_, (outF.rf I a).u.u.u.u.u, (outP.rf P a).u, ?_, rfl⟩
      · rw [rd_j _ _ _ hf6, rd_y _ _ _ hf6, rd_m _ _ _ hf6, rd_k _ _ _ hf6, rd_10, at_10 I a]; rfl
      · intro g hg
        by_cases hgf : g = f
        · subst hgf
          refine ⟨_, u2_s _ _ _ _, ?_⟩
          rw [hkK, setlF, up_n _ _ (by omega), up_n _ _ (by omega), up_n _ _ (by omega), up_s]; rfl
        · obtain ⟨w, hw, hKw⟩ := hW g hg
          refine ⟨w, by rw [u2_a _ _ _ _ (by omega)]; exact hw, ?_⟩
          rw [hKw, setlF, up_n _ _ (by omega), up_n _ _ (by omega), up_n _ _ (by omega), up_n _ _ (by omega), up_n _ _ (by omega)]


