/-! the farm's methods, one year's parts -/
theorem sX2_isNoon {G : WG} {C : CF} {I : MI} {P : MP} {L : ML} {a : Nat} {yr : Int} (hF : FarmL G C P a := by assumption) (hs : 2 ≤ I a 4 ∧ I a 4 ≤ 70 := by omega) (hy : 0 ≤ yr ∧ yr ≤ 2000000 := by omega) : SX2_isNoon G [.ref a, .int (zI yr)] C I P L (NI C (XI (if noonF (rdF I a) yr then 1 else 0) I P L)) := by
  obtain ⟨hB, hK, hK1, hK2, hK3, hP0, hP1, hP2, hP3, hfam⟩ := id hF
  have hm := Int.emod_lt_of_pos yr (show 0 < I a 4 by omega)
  have hm0 := Int.emod_nonneg yr (show I a 4 ≠ 0 by omega)
  refine en_I (by decide +kernel) (Nat.le_of_ble_eq_true rfl) ?_
  change Wd _ _ _ _ _ _ _ _ 0 [some _, some _] [] _ _ _ _
  refine r_iload_n (pc := 0) dX2_isNoon_0 rfl ?_
  refine r_aload_n (pc := 1) dX2_isNoon_1 rfl ?_
  refine r_getI (pc := 2) dX2_isNoon_2 frX2_35 (by assumption) ?_
  refine i_SN2ix (pc := 5) okX11_leftOver staX11_leftOver nwX2_90 dX2_isNoon_5 (by decide) (Nat.le_of_ble_eq_true rfl) (sX11_leftOver) ?_
  refine r_aload_n (pc := 8) dX2_isNoon_8 rfl ?_
  refine r_getI (pc := 9) dX2_isNoon_9 frX2_35 (by assumption) ?_
  refine r_iconst (pc := 12) dX2_isNoon_12 ?_
  refine r_isub (pc := 13) dX2_isNoon_13 ?_
  refine r_icmp_ne (pc := 14) 21 dX2_isNoon_14 (by decide) (by omega) (by omega) (fun h14 => ?_) (fun h14 => ?_)
  · skip
    refine r_iconst (pc := 21) dX2_isNoon_21 ?_
    refine t_iret (pc := 22) dX2_isNoon_22 rfl rfl ?_
    exact ⟨by simp [noonF, ← at_4, h14], rfl, rfl, rfl⟩
  · skip
    refine r_iconst (pc := 17) dX2_isNoon_17 ?_
    refine r_goto (pc := 18) 22 dX2_isNoon_18 (by decide) ?_
    refine t_iret (pc := 22) dX2_isNoon_22 rfl rfl ?_
    exact ⟨by simp [noonF, ← at_4, h14], rfl, rfl, rfl⟩
theorem sX1_needs {G : WG} {C : CF} {I : MI} {P : MP} {L : ML} {b w : Nat} {k : Int} {n : Bool} (hK : C.1 b = some (.inl 1) := by assumption) (hP : P b 0 = some w := by assumption) (hk : 0 ≤ k ∧ k ≤ 4 := by omega) (hw : C.1 w = some (.inl (kcls k.toNat)) := by assumption) (hm : 0 ≤ I b 2 ∧ I b 2 ≤ 100 := by omega) : SX1_needs G [.ref b, .int (zI (if n then 1 else 0))] C I P L (NI C (XI (mealK k (I b 2) n) I P L)) := by
  refine en_I (by decide +kernel) (Nat.le_of_ble_eq_true rfl) ?_
  change Wd _ _ _ _ _ _ _ _ 0 [some _, some _] [] _ _ _ _
  refine r_aload_n (pc := 0) dX1_needs_0 rfl ?_
  refine r_getP (pc := 1) dX1_needs_1 frX1_7 (by assumption) (by assumption) ?_
  refine r_aload_n (pc := 4) dX1_needs_4 rfl ?_
  refine r_getI (pc := 5) dX1_needs_5 frX1_17 (by assumption) ?_
  refine r_iload_n (pc := 8) dX1_needs_8 rfl ?_
  refine v_meal (pc := 9) (k := k) (by omega) (by assumption) q463 dX1_needs_9 (by decide) (Nat.le_of_ble_eq_true rfl) (by omega) ?_
  refine t_iret (pc := 12) dX1_needs_12 rfl rfl ?_
  exact ⟨rfl, rfl, rfl, rfl⟩
theorem sX2_harvest {G : WG} {C : CF} {I : MI} {P : MP} {L : ML} {a : Nat} {Y s : Int} (hF : FarmL G C P a := by assumption) (hI : FI (rdF I a) Y := by assumption) (hs : 0 ≤ s ∧ s ≤ 100000 := by omega) : SX2_harvest G [.ref a, .int (zI s)] C I P L (NV C (QF a I (harvF (rdF I a) s) P L)) := by
  obtain ⟨hB, hK, hK1, hK2, hK3, hP0, hP1, hP2, hP3, hfam⟩ := id hF
  have h6 : 0 ≤ I a 6 ∧ I a 6 ≤ 9999 := hI.2.2.1
  have h7 : 0 ≤ I a 7 ∧ I a 7 ≤ 9999 := hI.2.2.2.1
  have h8 : 0 ≤ I a 8 ∧ I a 8 ≤ 9999 := hI.2.2.2.2.1
  have h9 : 0 ≤ I a 9 ∧ I a 9 ≤ 9999 := hI.2.2.2.2.2.1
  refine en_V (by decide +kernel) (Nat.le_of_ble_eq_true rfl) ?_
  change Wd _ _ _ _ _ _ _ _ 0 [some _, some _] [] _ _ _ _
  refine r_aload_n (pc := 0) dX2_harvest_0 rfl ?_
  refine r_aload_n (pc := 1) dX2_harvest_1 rfl ?_
  refine r_getI (pc := 2) dX2_harvest_2 frX2_42 (by assumption) ?_
  refine r_iconst (pc := 5) dX2_harvest_5 ?_
  refine r_iload_n (pc := 6) dX2_harvest_6 rfl ?_
  refine r_imul (pc := 7) dX2_harvest_7 ?_
  refine r_iadd (pc := 8) dX2_harvest_8 ?_
  refine i_SN1ix (pc := 9) okX11_stored staX11_stored nwX2_130 dX2_harvest_9 (by decide) (Nat.le_of_ble_eq_true rfl) (sX11_stored) ?_
  refine r_putI (pc := 12) dX2_harvest_12 fwX2_42 (by assumption) (by omega) ?_
  refine r_aload_n (pc := 15) dX2_harvest_15 rfl ?_
  refine r_aload_n (pc := 16) dX2_harvest_16 rfl ?_
  refine r_getI (pc := 17) dX2_harvest_17 frX2_45 (by assumption) ?_
  try simp only [u2_app, true_and, and_true, and_false, false_and, and_self, Nat.reduceEqDiff, ↓reduceIte]
  refine r_iload_n (pc := 20) dX2_harvest_20 rfl ?_
  refine r_iadd (pc := 21) dX2_harvest_21 ?_
  refine i_SN1ix (pc := 22) okX11_stored staX11_stored nwX2_130 dX2_harvest_22 (by decide) (Nat.le_of_ble_eq_true rfl) (sX11_stored) ?_
  refine r_putI (pc := 25) dX2_harvest_25 fwX2_45 (by assumption) (by omega) ?_
  refine r_aload_n (pc := 28) dX2_harvest_28 rfl ?_
  refine r_aload_n (pc := 29) dX2_harvest_29 rfl ?_
  refine r_getI (pc := 30) dX2_harvest_30 frX2_48 (by assumption) ?_
  try simp only [u2_app, true_and, and_true, and_false, false_and, and_self, Nat.reduceEqDiff, ↓reduceIte]
  refine r_iload_n (pc := 33) dX2_harvest_33 rfl ?_
  refine r_iconst (pc := 34) dX2_harvest_34 ?_
  refine r_idiv (pc := 35) dX2_harvest_35 (by omega) (by omega) (by omega) (by omega) ?_
  refine r_isub (pc := 36) dX2_harvest_36 ?_
  refine i_SN1ix (pc := 37) okX11_stored staX11_stored nwX2_130 dX2_harvest_37 (by decide) (Nat.le_of_ble_eq_true rfl) (sX11_stored) ?_
  refine r_putI (pc := 40) dX2_harvest_40 fwX2_48 (by assumption) (by omega) ?_
  refine r_aload_n (pc := 43) dX2_harvest_43 rfl ?_
  refine r_aload_n (pc := 44) dX2_harvest_44 rfl ?_
  refine r_getI (pc := 45) dX2_harvest_45 frX2_51 (by assumption) ?_
  try simp only [u2_app, true_and, and_true, and_false, false_and, and_self, Nat.reduceEqDiff, ↓reduceIte]
  refine r_bipush (pc := 48) dX2_harvest_48 (by decide) ?_
  refine r_iadd (pc := 50) dX2_harvest_50 ?_
  refine i_SN1ix (pc := 51) okX11_stored staX11_stored nwX2_130 dX2_harvest_51 (by decide) (Nat.le_of_ble_eq_true rfl) (sX11_stored) ?_
  refine r_putI (pc := 54) dX2_harvest_54 fwX2_51 (by assumption) (by omega) ?_
  refine t_vret (pc := 57) dX2_harvest_57 rfl ?_
  exact ⟨by rw [rd_9, rd_8, rd_7, rd_6]; rfl, (((outF.rf I a).u).u.u.u), rfl, rfl⟩
theorem sX2_teach {G : WG} {C : CF} {I : MI} {P : MP} {L : ML} {a f : Nat} {Y x : Int} (hF : FarmL G C P a := by assumption) (hI : FI (rdF I a) Y := by assumption) (hx : x = (f : Int) := by first | rfl | omega) (hf : (f : Int) < I a 10 := by omega) : SX2_teach G [.ref a, .int (zI x)] C I P L (NV C (QF a I (teachF (rdF I a) f (rdF I a (9 + 4 * f) - 1) (sizeF (rdF I a))) P L)) := by
  subst hx
  obtain ⟨hB, hK, hK1, hK2, hK3, hP0, hP1, hP2, hP3, hfam⟩ := id hF
  obtain ⟨hs6, hsz⟩ := sizeF_le hI
  rw [← at_10] at hsz
  have hKf := (hfam f (by omega)).1
  have e1 := at_y I a (show f < 6 by omega)
  have hbf := (hI.2.2.2.2.2.2.2 f (by omega)).2.2.1
  rw [← e1] at hbf
  rw [← e1]
  generalize hF' : teachF (rdF I a) f (I (a + 4 + f) 3 - 1) = T
  generalize hq : QF a I (T (sizeF (rdF I a))) P L = q
  refine en_V (by decide +kernel) (Nat.le_of_ble_eq_true rfl) ?_
  change Wd _ _ _ _ _ _ _ _ 0 [some _, some _, none, none, none] [] _ _ _ _
  have loop : ∀ (d o : Nat) (i : Int) (x : Option Value) (I1 : MI), o + d = sizeF (rdF I a) → i = (o : Int) → rdF I1 a = T o → outF I I1 a → Wd G yX2_teach cX2_teach 5 none 1 (C.2.1 + 0, C.2.2 + 0) (NV C q) 13 [some (.ref a), some (.int (zI (f : Int))), some (.int (zI (I (a + 4 + f) 3 - 1))), some (.int (zI i)), x] [] C I1 P L := by
    intro d
    induction d using Nat.strongRecOn with
    | _ d ih =>
      intro o i x I1 hd hi hT hO
      have hI1 : FI (rdF I1 a) Y := by rw [hT, ← hF']; exact FI_teach hI (by omega) o (by omega)
      have h10 : I1 a 10 = I a 10 := by rw [at_10 I1 a, at_10 I a, hT, ← hF', fx_teach _ _ _ (by omega)]
      refine r_iload_n (pc := 13) dX2_teach_13 rfl ?_
      refine r_aload_n (pc := 14) dX2_teach_14 rfl ?_
      refine r_getI (pc := 15) dX2_teach_15 frX2_54 (by assumption) ?_
      refine r_icmp_ge (pc := 18) 53 dX2_teach_18 (by decide) (by omega) (by omega) (fun h18 => ?_) (fun h18 => ?_)
      · skip
        refine t_vret (pc := 53) dX2_teach_53 rfl ?_
        subst hq; exact ⟨by rw [hT]; congr 1; omega, hO, rfl, rfl⟩
      · skip
        have ho6 : o < 6 := by omega
        have e3 := at_y I1 a ho6
        have hKf := (hfam o ho6).1
        have hb := (hI1.2.2.2.2.2.2.2 o ho6).2.2.1
        rw [← e3] at hb
        refine r_aload_n (pc := 21) dX2_teach_21 rfl ?_
        refine r_iload_n (pc := 22) dX2_teach_22 rfl ?_
        refine i_V1rx (pc := 23) okX2_member inX2_member selX2_member q365 dX2_teach_23 (by assumption) rfl (by decide) (Nat.le_of_ble_eq_true rfl) (sX2_member (f := o)) ?_
        refine r_astore (pc := 26) dX2_teach_26 (by decide) ?_
        refine r_iload_n (pc := 28) dX2_teach_28 rfl ?_
        refine r_iload_n (pc := 29) dX2_teach_29 rfl ?_
        refine r_icmp_eq (pc := 30) 47 dX2_teach_30 (by decide) (by omega) (by omega) (fun h30 => ?_) (fun h30 => ?_)
        · skip
          refine r_iinc (pc := 47) dX2_teach_47 rfl ?_
          refine r_goto (pc := 50) 13 dX2_teach_50 (by decide) ?_
          first
          | exact ih (d - 1) (by omega) (o + 1) _ _ _ (by omega) (by omega) (by rw [hT, ← hF', teachF, if_pos (by omega)]) hO
          | exact ih (d - 1) (by omega) (o + 1) _ _ _ (by omega) (by omega) (by rw [rd_y _ _ _ ho6, e3, hT, ← hF', teachF, if_neg (by omega)]) hO.u
        · skip
          refine r_aload (pc := 33) dX2_teach_33 rfl ?_
          refine r_aload (pc := 35) dX2_teach_35 rfl ?_
          refine r_getI (pc := 37) dX2_teach_37 frX2_78 (by assumption) ?_
          refine r_iload_n (pc := 40) dX2_teach_40 rfl ?_
          refine r_max (pc := 41) q418 stamthmax inimth codmthmax (by decide) (Nat.le_of_ble_eq_true rfl) dX2_teach_41 (by omega) (by omega) ?_
          refine r_putI (pc := 44) dX2_teach_44 fwX2_78 (by assumption) (by omega) ?_
          refine r_iinc (pc := 47) dX2_teach_47 rfl ?_
          refine r_goto (pc := 50) 13 dX2_teach_50 (by decide) ?_
          first
          | exact ih (d - 1) (by omega) (o + 1) _ _ _ (by omega) (by omega) (by rw [hT, ← hF', teachF, if_pos (by omega)]) hO
          | exact ih (d - 1) (by omega) (o + 1) _ _ _ (by omega) (by omega) (by rw [rd_y _ _ _ ho6, e3, hT, ← hF', teachF, if_neg (by omega)]) hO.u
  refine r_aload_n (pc := 0) dX2_teach_0 rfl ?_
  refine r_iload_n (pc := 1) dX2_teach_1 rfl ?_
  refine i_V1rx (pc := 2) okX2_member inX2_member selX2_member q365 dX2_teach_2 (by assumption) rfl (by decide) (Nat.le_of_ble_eq_true rfl) (sX2_member (f := f)) ?_
  refine r_getI (pc := 5) dX2_teach_5 frX2_78 (by assumption) ?_
  refine r_iconst (pc := 8) dX2_teach_8 ?_
  refine r_isub (pc := 9) dX2_teach_9 ?_
  refine r_istore_n (pc := 10) dX2_teach_10 (by decide) ?_
  refine r_iconst (pc := 11) dX2_teach_11 ?_
  refine r_istore_n (pc := 12) dX2_teach_12 (by decide) ?_
  exact loop (sizeF (rdF I a)) 0 _ _ _ (by omega) (by omega) (by rw [← hF']; rfl) (outF.rf I a)

theorem sX2_work {G : WG} {C : CF} {I : MI} {P : MP} {L : ML} {a : Nat} {Y : Int} (hF : FarmL G C P a := by assumption) (hI : FI (rdF I a) Y := by assumption) (hY : Y ≤ 1000000 := by omega) (hW : WayL C P a (rdF I a) := by assumption) : SX2_work G [.ref a] C I P L (NV C (QF a I (workF (rdF I a) (sizeF (rdF I a))) P L)) := by
  obtain ⟨hB, hK, hK1, hK2, hK3, hP0, hP1, hP2, hP3, hfam⟩ := id hF
  obtain ⟨hs6, hsz⟩ := sizeF_le hI
  rw [← at_10] at hsz
  generalize hF' : workF (rdF I a) = T
  generalize hq : QF a I (T (sizeF (rdF I a))) P L = q
  refine en_V (by decide +kernel) (Nat.le_of_ble_eq_true rfl) ?_
  change Wd _ _ _ _ _ _ _ _ 0 [some _, none, none] [] _ _ _ _
  have loop : ∀ (d f : Nat) (i : Int) (x : Option Value) (I1 : MI), f + d = sizeF (rdF I a) → i = (f : Int) → rdF I1 a = T f → outF I I1 a → Wd G yX2_work cX2_work 3 none 3 (C.2.1 + 0, C.2.2 + 0) (NV C q) 2 [some (.ref a), some (.int (zI i)), x] [] C I1 P L := by
    intro d
    induction d using Nat.strongRecOn with
    | _ d ih =>
      intro f i x I1 hd hi hT hO
      have hI1 : FI (rdF I1 a) Y := by rw [hT, ← hF']; exact FI_work hI f (by omega)
      have h10 : I1 a 10 = I a 10 := by rw [at_10 I1 a, at_10 I a, hT, ← hF', fx_work _ (by omega) (by omega)]
      have hs1 : sizeF (rdF I1 a) = sizeF (rdF I a) := sz_same (by rw [← at_10, ← at_10]; exact h10)
      have hy : 0 ≤ I1 a 5 ∧ I1 a 5 ≤ Y := hI1.2.1
      have h7 : 0 ≤ I1 a 7 ∧ I1 a 7 ≤ 9999 := hI1.2.2.2.1
      have h8 : 0 ≤ I1 a 8 ∧ I1 a 8 ≤ 9999 := hI1.2.2.2.2.1
      have h9 : 0 ≤ I1 a 9 ∧ I1 a 9 ≤ 9999 := hI1.2.2.2.2.2.1
      refine r_iload_n (pc := 2) dX2_work_2 rfl ?_
      refine r_aload_n (pc := 3) dX2_work_3 rfl ?_
      refine r_getI (pc := 4) dX2_work_4 frX2_54 (by assumption) ?_
      refine r_icmp_ge (pc := 7) 148 dX2_work_7 (by decide) (by first | omega | (split <;> omega)) (by first | omega | (split <;> omega)) (fun h7 => ?_) (fun h7 => ?_)
      · skip
        refine t_vret (pc := 148) dX2_work_148 rfl ?_
        subst hq; exact ⟨by rw [hT]; congr 1; omega, hO, rfl, rfl⟩
      · skip
        have hf6 : f < 6 := by omega
        have ek := at_k I1 a hf6
        have ej := at_j I1 a hf6
        have hKf := (hfam f hf6).1
        obtain ⟨w, hPw, hKw⟩ := hW f hf6
        have hkk : rdF I a (7 + 4 * f) = rdF I1 a (7 + 4 * f) := by rw [hT, ← hF', fx_work _ (by omega) (by omega)]
        rw [hkk, ← ek] at hKw
        have hb := hI1.2.2.2.2.2.2.2 f hf6
        rw [← ek, ← ej] at hb
        have hw1 : work1 (rdF I1 a) f = T (f + 1) := by rw [hT, ← hF']; rfl
        have hmk : 0 ≤ makesK (I1 (a + 4 + f) 1) ∧ makesK (I1 (a + 4 + f) 1) ≤ 3 := by unfold makesK; split <;> omega
        have htk : 0 ≤ tendsK (I1 (a + 4 + f) 1) ∧ tendsK (I1 (a + 4 + f) 1) ≤ 4 := by unfold tendsK; (repeat' split) <;> omega
        generalize hR : work1 (rdF I1 a) f = R1 at hw1
        unfold work1 at hR
        rw [← ek, ← ej, ← at_5, ← at_7, ← at_8, ← at_9] at hR
        refine r_aload_n (pc := 10) dX2_work_10 rfl ?_
        refine r_iload_n (pc := 11) dX2_work_11 rfl ?_
        refine i_V1rx (pc := 12) okX2_member inX2_member selX2_member q365 dX2_work_12 (by assumption) rfl (by decide) (Nat.le_of_ble_eq_true rfl) (sX2_member (f := f)) ?_
        refine r_astore_n (pc := 15) dX2_work_15 (by decide) ?_
        refine r_aload_n (pc := 16) dX2_work_16 rfl ?_
        refine r_getP (pc := 17) dX2_work_17 frX2_81 (by assumption) (by assumption) ?_
        refine r_aload_n (pc := 20) dX2_work_20 rfl ?_
        refine r_getI (pc := 21) dX2_work_21 frX2_39 (by assumption) ?_
        refine v_rests (pc := 24) (k := I1 (a + 4 + f) 1) (by first | omega | (split <;> omega)) (by assumption) q403 dX2_work_24 (by decide) (Nat.le_of_ble_eq_true rfl) (by first | omega | (split <;> omega)) ?_
        refine r_if_eq (pc := 27) 33 dX2_work_27 (by decide) (by first | omega | (split <;> omega)) (fun h27 => ?_) (fun h27 => ?_)
        · skip
          rw [if_neg (by intro hc; rw [if_pos hc] at h27; omega)] at hR
          refine r_aload_n (pc := 33) dX2_work_33 rfl ?_
          refine r_getI (pc := 34) dX2_work_34 frX2_87 (by assumption) ?_
          rcases (show I1 (a + 4 + f) 4 = 1 ∨ I1 (a + 4 + f) 4 = 2 ∨ I1 (a + 4 + f) 4 = 3 ∨ I1 (a + 4 + f) 4 = 4 ∨ (I1 (a + 4 + f) 4 < 1 ∨ 4 < I1 (a + 4 + f) 4) by omega) with h37 | h37 | h37 | h37 | h37
          · skip
            refine r_tsIn (pc := 37) 68 dX2_work_37 (by first | omega | (split <;> omega)) (by first | omega | (split <;> omega)) (by first | omega | (split <;> omega)) (by rw [h37]; rfl) (by decide) ?_
            refine r_aload_n (pc := 68) dX2_work_68 rfl ?_
            refine r_iload_n (pc := 69) dX2_work_69 rfl ?_
            refine i_V1vg (pc := 70) okX2_teach inX2_teach selX2_teach q414 dX2_work_70 (by assumption) rfl (by decide) (Nat.le_of_ble_eq_true rfl) (sX2_teach (f := f)) (fun I2 P2 L2 hq2 => ?_)
            obtain ⟨hT2, hO2, rfl, rfl⟩ := hq2
            refine r_goto (pc := 73) 142 dX2_work_73 (by decide) ?_
            refine r_iinc (pc := 142) dX2_work_142 rfl ?_
            refine r_goto (pc := 145) 2 dX2_work_145 (by decide) ?_
            first
            | exact ih (d - 1) (by omega) (f + 1) _ _ _ (by omega) (by omega) (by rw [hT2, ← hw1, ← hR, if_pos h37]) (hO.tr hO2)
            | exact ih (d - 1) (by omega) (f + 1) _ _ _ (by omega) (by omega) (by rw [rd_8, ← hw1, ← hR, if_neg (by omega), if_pos h37]) hO.u
            | exact ih (d - 1) (by omega) (f + 1) _ _ _ (by omega) (by omega) (by rw [rd_7, ← hw1, ← hR, if_neg (by omega), if_neg (by omega), if_pos h37]) hO.u
            | exact ih (d - 1) (by omega) (f + 1) _ _ _ (by omega) (by omega) (by rw [rd_9, ← hw1, ← hR, if_neg (by omega), if_neg (by omega), if_neg (by omega), if_pos h37]) hO.u
            | exact ih (d - 1) (by omega) (f + 1) _ _ _ (by omega) (by omega) (by rw [← hw1, ← hR, if_neg (by omega), if_neg (by omega), if_neg (by omega), if_neg (by omega)]) hO
            | exact ih (d - 1) (by omega) (f + 1) _ _ _ (by omega) (by omega) (by rw [← hw1, ← hR]) hO
          · skip
            refine r_tsIn (pc := 37) 76 dX2_work_37 (by first | omega | (split <;> omega)) (by first | omega | (split <;> omega)) (by first | omega | (split <;> omega)) (by rw [h37]; rfl) (by decide) ?_
            refine r_aload_n (pc := 76) dX2_work_76 rfl ?_
            refine r_aload_n (pc := 77) dX2_work_77 rfl ?_
            refine r_getI (pc := 78) dX2_work_78 frX2_48 (by assumption) ?_
            refine r_aload_n (pc := 81) dX2_work_81 rfl ?_
            refine r_getP (pc := 82) dX2_work_82 frX2_81 (by assumption) (by assumption) ?_
            refine v_makes (pc := 85) (k := I1 (a + 4 + f) 1) (by first | omega | (split <;> omega)) (by assumption) q419 dX2_work_85 (by decide) (Nat.le_of_ble_eq_true rfl) ?_
            refine r_iadd (pc := 88) dX2_work_88 ?_
            refine i_SN1ix (pc := 89) okX11_stored staX11_stored nwX2_130 dX2_work_89 (by decide) (Nat.le_of_ble_eq_true rfl) (sX11_stored) ?_
            refine r_putI (pc := 92) dX2_work_92 fwX2_48 (by assumption) (by first | omega | (split <;> omega)) ?_
            refine r_goto (pc := 95) 142 dX2_work_95 (by decide) ?_
            refine r_iinc (pc := 142) dX2_work_142 rfl ?_
            refine r_goto (pc := 145) 2 dX2_work_145 (by decide) ?_
            first
            | exact ih (d - 1) (by omega) (f + 1) _ _ _ (by omega) (by omega) (by rw [hT2, ← hw1, ← hR, if_pos h37]) (hO.tr hO2)
            | exact ih (d - 1) (by omega) (f + 1) _ _ _ (by omega) (by omega) (by rw [rd_8, ← hw1, ← hR, if_neg (by omega), if_pos h37]) hO.u
            | exact ih (d - 1) (by omega) (f + 1) _ _ _ (by omega) (by omega) (by rw [rd_7, ← hw1, ← hR, if_neg (by omega), if_neg (by omega), if_pos h37]) hO.u
            | exact ih (d - 1) (by omega) (f + 1) _ _ _ (by omega) (by omega) (by rw [rd_9, ← hw1, ← hR, if_neg (by omega), if_neg (by omega), if_neg (by omega), if_pos h37]) hO.u
            | exact ih (d - 1) (by omega) (f + 1) _ _ _ (by omega) (by omega) (by rw [← hw1, ← hR, if_neg (by omega), if_neg (by omega), if_neg (by omega), if_neg (by omega)]) hO
            | exact ih (d - 1) (by omega) (f + 1) _ _ _ (by omega) (by omega) (by rw [← hw1, ← hR]) hO
          · skip
            refine r_tsIn (pc := 37) 98 dX2_work_37 (by first | omega | (split <;> omega)) (by first | omega | (split <;> omega)) (by first | omega | (split <;> omega)) (by rw [h37]; rfl) (by decide) ?_
            refine r_aload_n (pc := 98) dX2_work_98 rfl ?_
            refine r_aload_n (pc := 99) dX2_work_99 rfl ?_
            refine r_getI (pc := 100) dX2_work_100 frX2_45 (by assumption) ?_
            refine r_aload_n (pc := 103) dX2_work_103 rfl ?_
            refine r_getP (pc := 104) dX2_work_104 frX2_81 (by assumption) (by assumption) ?_
            refine v_tends (pc := 107) (k := I1 (a + 4 + f) 1) (by first | omega | (split <;> omega)) (by assumption) q431 dX2_work_107 (by decide) (Nat.le_of_ble_eq_true rfl) ?_
            refine r_iadd (pc := 110) dX2_work_110 ?_
            refine i_SN1ix (pc := 111) okX11_stored staX11_stored nwX2_130 dX2_work_111 (by decide) (Nat.le_of_ble_eq_true rfl) (sX11_stored) ?_
            refine r_putI (pc := 114) dX2_work_114 fwX2_45 (by assumption) (by first | omega | (split <;> omega)) ?_
            refine r_goto (pc := 117) 142 dX2_work_117 (by decide) ?_
            refine r_iinc (pc := 142) dX2_work_142 rfl ?_
            refine r_goto (pc := 145) 2 dX2_work_145 (by decide) ?_
            first
            | exact ih (d - 1) (by omega) (f + 1) _ _ _ (by omega) (by omega) (by rw [hT2, ← hw1, ← hR, if_pos h37]) (hO.tr hO2)
            | exact ih (d - 1) (by omega) (f + 1) _ _ _ (by omega) (by omega) (by rw [rd_8, ← hw1, ← hR, if_neg (by omega), if_pos h37]) hO.u
            | exact ih (d - 1) (by omega) (f + 1) _ _ _ (by omega) (by omega) (by rw [rd_7, ← hw1, ← hR, if_neg (by omega), if_neg (by omega), if_pos h37]) hO.u
            | exact ih (d - 1) (by omega) (f + 1) _ _ _ (by omega) (by omega) (by rw [rd_9, ← hw1, ← hR, if_neg (by omega), if_neg (by omega), if_neg (by omega), if_pos h37]) hO.u
            | exact ih (d - 1) (by omega) (f + 1) _ _ _ (by omega) (by omega) (by rw [← hw1, ← hR, if_neg (by omega), if_neg (by omega), if_neg (by omega), if_neg (by omega)]) hO
            | exact ih (d - 1) (by omega) (f + 1) _ _ _ (by omega) (by omega) (by rw [← hw1, ← hR]) hO
          · skip
            refine r_tsIn (pc := 37) 120 dX2_work_37 (by first | omega | (split <;> omega)) (by first | omega | (split <;> omega)) (by first | omega | (split <;> omega)) (by rw [h37]; rfl) (by decide) ?_
            refine r_aload_n (pc := 120) dX2_work_120 rfl ?_
            refine r_aload_n (pc := 121) dX2_work_121 rfl ?_
            refine r_getI (pc := 122) dX2_work_122 frX2_51 (by assumption) ?_
            refine r_aload_n (pc := 125) dX2_work_125 rfl ?_
            refine r_getP (pc := 126) dX2_work_126 frX2_81 (by assumption) (by assumption) ?_
            refine v_digs (pc := 129) (k := I1 (a + 4 + f) 1) (by first | omega | (split <;> omega)) (by assumption) q446 dX2_work_129 (by decide) (Nat.le_of_ble_eq_true rfl) ?_
            refine r_iadd (pc := 132) dX2_work_132 ?_
            refine i_SN1ix (pc := 133) okX11_stored staX11_stored nwX2_130 dX2_work_133 (by decide) (Nat.le_of_ble_eq_true rfl) (sX11_stored) ?_
            refine r_putI (pc := 136) dX2_work_136 fwX2_51 (by assumption) (by first | omega | (split <;> omega)) ?_
            refine r_goto (pc := 139) 142 dX2_work_139 (by decide) ?_
            refine r_iinc (pc := 142) dX2_work_142 rfl ?_
            refine r_goto (pc := 145) 2 dX2_work_145 (by decide) ?_
            first
            | exact ih (d - 1) (by omega) (f + 1) _ _ _ (by omega) (by omega) (by rw [hT2, ← hw1, ← hR, if_pos h37]) (hO.tr hO2)
            | exact ih (d - 1) (by omega) (f + 1) _ _ _ (by omega) (by omega) (by rw [rd_8, ← hw1, ← hR, if_neg (by omega), if_pos h37]) hO.u
            | exact ih (d - 1) (by omega) (f + 1) _ _ _ (by omega) (by omega) (by rw [rd_7, ← hw1, ← hR, if_neg (by omega), if_neg (by omega), if_pos h37]) hO.u
            | exact ih (d - 1) (by omega) (f + 1) _ _ _ (by omega) (by omega) (by rw [rd_9, ← hw1, ← hR, if_neg (by omega), if_neg (by omega), if_neg (by omega), if_pos h37]) hO.u
            | exact ih (d - 1) (by omega) (f + 1) _ _ _ (by omega) (by omega) (by rw [← hw1, ← hR, if_neg (by omega), if_neg (by omega), if_neg (by omega), if_neg (by omega)]) hO
            | exact ih (d - 1) (by omega) (f + 1) _ _ _ (by omega) (by omega) (by rw [← hw1, ← hR]) hO
          · skip
            refine r_tsOut (pc := 37) 142 dX2_work_37 (by first | omega | (split <;> omega)) h37 (by decide) ?_
            refine r_iinc (pc := 142) dX2_work_142 rfl ?_
            refine r_goto (pc := 145) 2 dX2_work_145 (by decide) ?_
            first
            | exact ih (d - 1) (by omega) (f + 1) _ _ _ (by omega) (by omega) (by rw [hT2, ← hw1, ← hR, if_pos h37]) (hO.tr hO2)
            | exact ih (d - 1) (by omega) (f + 1) _ _ _ (by omega) (by omega) (by rw [rd_8, ← hw1, ← hR, if_neg (by omega), if_pos h37]) hO.u
            | exact ih (d - 1) (by omega) (f + 1) _ _ _ (by omega) (by omega) (by rw [rd_7, ← hw1, ← hR, if_neg (by omega), if_neg (by omega), if_pos h37]) hO.u
            | exact ih (d - 1) (by omega) (f + 1) _ _ _ (by omega) (by omega) (by rw [rd_9, ← hw1, ← hR, if_neg (by omega), if_neg (by omega), if_neg (by omega), if_pos h37]) hO.u
            | exact ih (d - 1) (by omega) (f + 1) _ _ _ (by omega) (by omega) (by rw [← hw1, ← hR, if_neg (by omega), if_neg (by omega), if_neg (by omega), if_neg (by omega)]) hO
            | exact ih (d - 1) (by omega) (f + 1) _ _ _ (by omega) (by omega) (by rw [← hw1, ← hR]) hO
        · skip
          rw [if_pos (by by_cases hc : I1 (a + 4 + f) 1 = 1 ∧ I1 a 5 % 2 = 1 <;> simp_all)] at hR
          refine r_goto (pc := 30) 142 dX2_work_30 (by decide) ?_
          refine r_iinc (pc := 142) dX2_work_142 rfl ?_
          refine r_goto (pc := 145) 2 dX2_work_145 (by decide) ?_
          first
          | exact ih (d - 1) (by omega) (f + 1) _ _ _ (by omega) (by omega) (by rw [hT2, ← hw1, ← hR, if_pos h37]) (hO.tr hO2)
          | exact ih (d - 1) (by omega) (f + 1) _ _ _ (by omega) (by omega) (by rw [rd_8, ← hw1, ← hR, if_neg (by omega), if_pos h37]) hO.u
          | exact ih (d - 1) (by omega) (f + 1) _ _ _ (by omega) (by omega) (by rw [rd_7, ← hw1, ← hR, if_neg (by omega), if_neg (by omega), if_pos h37]) hO.u
          | exact ih (d - 1) (by omega) (f + 1) _ _ _ (by omega) (by omega) (by rw [rd_9, ← hw1, ← hR, if_neg (by omega), if_neg (by omega), if_neg (by omega), if_pos h37]) hO.u
          | exact ih (d - 1) (by omega) (f + 1) _ _ _ (by omega) (by omega) (by rw [← hw1, ← hR, if_neg (by omega), if_neg (by omega), if_neg (by omega), if_neg (by omega)]) hO
          | exact ih (d - 1) (by omega) (f + 1) _ _ _ (by omega) (by omega) (by rw [← hw1, ← hR]) hO
  refine r_iconst (pc := 0) dX2_work_0 ?_
  refine r_istore_n (pc := 1) dX2_work_1 (by decide) ?_
  exact loop (sizeF (rdF I a)) 0 _ _ _ (by omega) (by omega) (by rw [← hF']; rfl) (outF.rf I a)


