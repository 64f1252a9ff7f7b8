/-! the reference: a year -/
section REF2
variable {G : WG} {C : CF} {I : MI} {P : MP} {L : ML} {m : Nat} {R : Nat → Int} {Y : Int}
theorem teachF_c (R : Nat → Int) {f o : Nat} (l : Int) (h : o = f ∨ l ≤ teachF R f l o (9 + 4 * o)) : up (teachF R f l o) (9 + 4 * o) (teachF R f l o (9 + 4 * o)) = teachF R f l (o + 1) := by
  rw [up_self]
  show _ = (if o = f then teachF R f l o else up (teachF R f l o) (9 + 4 * o) (max (teachF R f l o (9 + 4 * o)) l))
  by_cases ho : o = f
  · rw [if_pos ho]
  · rw [if_neg ho, show max (teachF R f l o (9 + 4 * o)) l = teachF R f l o (9 + 4 * o) by omega, up_self]
theorem teachF_d (R : Nat → Int) {f o : Nat} (l : Int) (ho : o ≠ f) (h : ¬ l ≤ teachF R f l o (9 + 4 * o)) : up (teachF R f l o) (9 + 4 * o) l = teachF R f l (o + 1) := by
  show _ = (if o = f then teachF R f l o else up (teachF R f l o) (9 + 4 * o) (max (teachF R f l o (9 + 4 * o)) l))
  rw [if_neg ho, show max (teachF R f l o (9 + 4 * o)) l = l by omega]
theorem sX12_teach {f : Nat} {x : Int} (hm : RfL G C P m := by assumption) (hR : I (m + 1) = R := by first | exact uR_s _ _ _ | rfl) (hF : FI R Y := by assumption) (hx : x = (f : Int) := by first | rfl | omega) (hf : f < 6 := by omega) : SX12_teach G [.ref m, .int (zI x)] C I P L (NV C (XV (uR I (m + 1) (teachF R f (R (9 + 4 * f) - 1) (sizeF R))) P L)) := by
  obtain ⟨hBm, hKm, hK1, hK2, hK3, hK4, hK5, hK6, hK7, hK8, hK9, hK10, hK11, hP0, hP1, hP2, hP3, hP6, hP7, hP8, hP9, hP10, hP16, hP17⟩ := id hm
  subst hR
  obtain ⟨hs6, hsz⟩ := sizeF_le hF
  have hll := (hF.2.2.2.2.2.2.2 f hf).2.2.1
  refine en_V (by decide +kernel) (Nat.le_of_ble_eq_true rfl) ?_
  change Wd _ _ _ _ _ _ _ _ 0 [some _, some _, none, none, none] [] _ _ _ _
  have loop : ∀ (d o : Nat) (i l : Int) (w : Option Value) (J : MI), o + d = sizeF (I (m + 1)) → i = (o : Int) → l = I (m + 1) (9 + 4 * f) - 1 → J = uR I (m + 1) (teachF (I (m + 1)) f l o) → Wd G yX12_teach cX12_teach 5 none 1 (C.2.1 + 0, C.2.2 + 0) (NV C (XV (uR I (m + 1) (teachF (I (m + 1)) f (I (m + 1) (9 + 4 * f) - 1) (sizeF (I (m + 1))))) P L)) 11 [some (.ref m), some (.int (zI x)), some (.int (zI l)), some (.int (zI i)), w] [] C J P L := by
    intro d
    induction d using Nat.strongRecOn with
    | _ d ih =>
      intro o i l w J hd hi hl hJ
      subst hJ
      have h6 : teachF (I (m + 1)) f l o 6 = I (m + 1) 6 := fx_teach _ _ _ (by omega) _
      have hFI : FI (teachF (I (m + 1)) f l o) Y := FI_teach hF (by omega) o (by omega)
      refine r_iload_n (pc := 11) dX12_teach_11 rfl ?_
      refine r_aload_n (pc := 12) dX12_teach_12 rfl ?_
      refine i_V0ix (pc := 13) okX12_families inX12_families selX12_families q1118 dX12_teach_13 (by assumption) rfl (by decide) (Nat.le_of_ble_eq_true rfl) (sX12_families) ?_
      try simp only [u2_I, uR_uR, uR_app, eq_self, Nat.reduceEqDiff, Nat.add_eq_left, Nat.left_eq_add, ↓reduceIte]
      refine r_icmp_ge (pc := 16) 69 dX12_teach_16 (by decide) (by omega) (by omega) (fun h16 => ?_) (fun h16 => ?_)
      · skip
        refine t_vret (pc := 69) dX12_teach_69 rfl ?_
        exact ⟨by rw [← hl, show sizeF (I (m + 1)) = o by omega], rfl, rfl⟩
      · skip
        have ho6 : o < 6 := by omega
        have hmem := (hFI.2.2.2.2.2.2.2 o ho6).2.2.1
        refine r_bipush (pc := 19) dX12_teach_19 (by decide) ?_
        refine r_iconst (pc := 21) dX12_teach_21 ?_
        refine r_iload_n (pc := 22) dX12_teach_22 rfl ?_
        refine r_imul (pc := 23) dX12_teach_23 ?_
        refine r_iadd (pc := 24) dX12_teach_24 ?_
        refine r_iconst (pc := 25) dX12_teach_25 ?_
        refine r_iadd (pc := 26) dX12_teach_26 ?_
        refine r_istore (pc := 27) dX12_teach_27 (by decide) ?_
        refine r_aload_n (pc := 29) dX12_teach_29 rfl ?_
        refine r_getA (pc := 30) dX12_teach_30 frX12_7 (by assumption) (by assumption) ?_
        refine r_iload (pc := 33) dX12_teach_33 rfl ?_
        refine r_iload_n (pc := 35) dX12_teach_35 rfl ?_
        refine r_iload_n (pc := 36) dX12_teach_36 rfl ?_
        refine r_icmp_eq (pc := 37) 55 dX12_teach_37 (by decide) (by omega) (by omega) (fun h37 => ?_) (fun h37 => ?_)
        · skip
          refine r_aload_n (pc := 55) dX12_teach_55 rfl ?_
          refine r_getA (pc := 56) dX12_teach_56 frX12_7 (by assumption) (by assumption) ?_
          refine r_iload (pc := 59) dX12_teach_59 rfl ?_
          refine r_iald (j := 9 + 4 * o) (pc := 61) dX12_teach_61 (by assumption) (by omega) (by omega) (by omega) ?_
          try simp only [u2_I, uR_uR, uR_app, eq_self, Nat.reduceEqDiff, Nat.add_eq_left, Nat.left_eq_add, ↓reduceIte]
          refine r_iast (j := 9 + 4 * o) (pc := 62) dX12_teach_62 (by assumption) (by omega) (by omega) (by omega) (by omega) ?_
          try simp only [u2_I, uR_uR, uR_app, eq_self, Nat.reduceEqDiff, Nat.add_eq_left, Nat.left_eq_add, ↓reduceIte]
          refine r_iinc (pc := 63) dX12_teach_63 rfl ?_
          refine r_goto (pc := 66) 11 dX12_teach_66 (by decide) ?_
          refine ih (d - 1) (by omega) (o + 1) _ _ _ _ (by omega) (by omega) hl ?_
          first | rw [teachF_c _ _ (by omega)] | rw [teachF_d _ _ (by omega) (by omega)]
        · skip
          refine r_aload_n (pc := 40) dX12_teach_40 rfl ?_
          refine r_getA (pc := 41) dX12_teach_41 frX12_7 (by assumption) (by assumption) ?_
          refine r_iload (pc := 44) dX12_teach_44 rfl ?_
          refine r_iald (j := 9 + 4 * o) (pc := 46) dX12_teach_46 (by assumption) (by omega) (by omega) (by omega) ?_
          try simp only [u2_I, uR_uR, uR_app, eq_self, Nat.reduceEqDiff, Nat.add_eq_left, Nat.left_eq_add, ↓reduceIte]
          refine r_iload_n (pc := 47) dX12_teach_47 rfl ?_
          refine r_icmp_ge (pc := 48) 55 dX12_teach_48 (by decide) (by omega) (by omega) (fun h48 => ?_) (fun h48 => ?_)
          · skip
            refine r_aload_n (pc := 55) dX12_teach_55 rfl ?_
            refine r_getA (pc := 56) dX12_teach_56 frX12_7 (by assumption) (by assumption) ?_
            refine r_iload (pc := 59) dX12_teach_59 rfl ?_
            refine r_iald (j := 9 + 4 * o) (pc := 61) dX12_teach_61 (by assumption) (by omega) (by omega) (by omega) ?_
            try simp only [u2_I, uR_uR, uR_app, eq_self, Nat.reduceEqDiff, Nat.add_eq_left, Nat.left_eq_add, ↓reduceIte]
            refine r_iast (j := 9 + 4 * o) (pc := 62) dX12_teach_62 (by assumption) (by omega) (by omega) (by omega) (by omega) ?_
            try simp only [u2_I, uR_uR, uR_app, eq_self, Nat.reduceEqDiff, Nat.add_eq_left, Nat.left_eq_add, ↓reduceIte]
            refine r_iinc (pc := 63) dX12_teach_63 rfl ?_
            refine r_goto (pc := 66) 11 dX12_teach_66 (by decide) ?_
            refine ih (d - 1) (by omega) (o + 1) _ _ _ _ (by omega) (by omega) hl ?_
            first | rw [teachF_c _ _ (by omega)] | rw [teachF_d _ _ (by omega) (by omega)]
          · skip
            refine r_iload_n (pc := 51) dX12_teach_51 rfl ?_
            refine r_goto (pc := 52) 62 dX12_teach_52 (by decide) ?_
            refine r_iast (j := 9 + 4 * o) (pc := 62) dX12_teach_62 (by assumption) (by omega) (by omega) (by omega) (by omega) ?_
            try simp only [u2_I, uR_uR, uR_app, eq_self, Nat.reduceEqDiff, Nat.add_eq_left, Nat.left_eq_add, ↓reduceIte]
            refine r_iinc (pc := 63) dX12_teach_63 rfl ?_
            refine r_goto (pc := 66) 11 dX12_teach_66 (by decide) ?_
            refine ih (d - 1) (by omega) (o + 1) _ _ _ _ (by omega) (by omega) hl ?_
            first | rw [teachF_c _ _ (by omega)] | rw [teachF_d _ _ (by omega) (by omega)]
  refine r_aload_n (pc := 0) dX12_teach_0 rfl ?_
  refine r_iload_n (pc := 1) dX12_teach_1 rfl ?_
  refine r_iconst (pc := 2) dX12_teach_2 ?_
  refine i_V2ix (pc := 3) okX12_of inX12_of selX12_of q1137 dX12_teach_3 (by assumption) rfl (by decide) (Nat.le_of_ble_eq_true rfl) (sX12_of (k := 9 + 4 * f) (by omega)) ?_
  refine r_iconst (pc := 6) dX12_teach_6 ?_
  refine r_isub (pc := 7) dX12_teach_7 ?_
  refine r_istore_n (pc := 8) dX12_teach_8 (by decide) ?_
  refine r_iconst (pc := 9) dX12_teach_9 ?_
  refine r_istore_n (pc := 10) dX12_teach_10 (by decide) ?_
  exact loop (sizeF (I (m + 1))) 0 _ _ _ _ (by omega) rfl rfl (uR_same I (m + 1)).symm
theorem sX12_work {f : Nat} {x : Int} (hm : RfL G C P m := by assumption) (hR : I (m + 1) = R := by first | exact uR_s _ _ _ | rfl) (hF : FI R Y := by assumption) (hY : Y ≤ 1000000 := by omega) (hx : x = (f : Int) := by first | rfl | omega) (hf : f < 6 := by omega) : SX12_work G [.ref m, .int (zI x)] C I P L (NV C (XV (uR I (m + 1) (work1 R f)) P L)) := by
  obtain ⟨hBm, hKm, hK1, hK2, hK3, hK4, hK5, hK6, hK7, hK8, hK9, hK10, hK11, hP0, hP1, hP2, hP3, hP6, hP7, hP8, hP9, hP10, hP16, hP17⟩ := id hm
  subst hR
  obtain ⟨f1, f2, f3, f4, f5⟩ := hF.2.2.2.2.2.2.2 f hf
  have hy := hF.2.1
  have g3 := hF.2.2.2.1
  have g4 := hF.2.2.2.2.1
  have g5 := hF.2.2.2.2.2.1
  have hmk : 0 ≤ makesK (I (m + 1) (7 + 4 * f)) ∧ makesK (I (m + 1) (7 + 4 * f)) ≤ 4 := by unfold makesK; split <;> omega
  have htk : 0 ≤ tendsK (I (m + 1) (7 + 4 * f)) ∧ tendsK (I (m + 1) (7 + 4 * f)) ≤ 4 := by unfold tendsK; split <;> (try split) <;> omega
  obtain ⟨jb, hjb⟩ : ∃ j, I (m + 1) (10 + 4 * f) = j := ⟨_, rfl⟩
  rw [hjb] at f4
  refine en_V (by decide +kernel) (Nat.le_of_ble_eq_true rfl) ?_
  change Wd _ _ _ _ _ _ _ _ 0 [some _, some _, none] [] _ _ _ _
  refine r_aload_n (pc := 0) dX12_work_0 rfl ?_
  refine r_iload_n (pc := 1) dX12_work_1 rfl ?_
  refine r_iconst (pc := 2) dX12_work_2 ?_
  refine i_V2ix (pc := 3) okX12_of inX12_of selX12_of q1137 dX12_work_3 (by assumption) rfl (by decide) (Nat.le_of_ble_eq_true rfl) (sX12_of (k := 7 + 4 * f) (by omega)) ?_
  refine r_istore_n (pc := 6) dX12_work_6 (by decide) ?_
  refine r_iload_n (pc := 7) dX12_work_7 rfl ?_
  refine r_iconst (pc := 8) dX12_work_8 ?_
  refine r_icmp_ne (pc := 9) 25 dX12_work_9 (by decide) (by omega) (by omega) (fun h9 => ?_) (fun h9 => ?_)
  · skip
    refine r_aload_n (pc := 25) dX12_work_25 rfl ?_
    refine r_iload_n (pc := 26) dX12_work_26 rfl ?_
    refine r_iconst (pc := 27) dX12_work_27 ?_
    refine i_V2ix (pc := 28) okX12_of inX12_of selX12_of q1137 dX12_work_28 (by assumption) rfl (by decide) (Nat.le_of_ble_eq_true rfl) (sX12_of (k := 10 + 4 * f) (by omega)) ?_
    rw [hjb]
    rcases (show jb = 1 ∨ jb = 2 ∨ jb = 3 ∨ jb = 4 ∨ (jb < 1 ∨ 4 < jb) by omega) with h31 | h31 | h31 | h31 | h31
    · skip
      refine r_tsIn (pc := 31) 60 dX12_work_31 (by omega) (by omega) (by omega) (by rw [h31]; rfl) (by decide) ?_
      refine r_aload_n (pc := 60) dX12_work_60 rfl ?_
      refine r_iload_n (pc := 61) dX12_work_61 rfl ?_
      refine i_V1vx (pc := 62) okX12_teach inX12_teach selX12_teach q1185 dX12_work_62 (by assumption) rfl (by decide) (Nat.le_of_ble_eq_true rfl) (sX12_teach (f := f)) ?_
      try simp only [u2_I, uR_uR, uR_app, eq_self, Nat.reduceEqDiff, Nat.add_eq_left, Nat.left_eq_add, ↓reduceIte]
      refine r_goto (pc := 65) 101 dX12_work_65 (by decide) ?_
      refine t_vret (pc := 101) dX12_work_101 rfl ?_
      refine ⟨?_, rfl, rfl⟩
      unfold work1; rw [if_neg (by omega), if_pos (by omega)]
    · skip
      refine r_tsIn (pc := 31) 68 dX12_work_31 (by omega) (by omega) (by omega) (by rw [h31]; rfl) (by decide) ?_
      refine r_aload_n (pc := 68) dX12_work_68 rfl ?_
      refine r_iconst (pc := 69) dX12_work_69 ?_
      refine r_iload_n (pc := 70) dX12_work_70 rfl ?_
      refine i_S1ix (pc := 71) okX12_makes staX12_makes q1189 dX12_work_71 (by decide) (Nat.le_of_ble_eq_true rfl) (sX12_makes) ?_
      refine i_V2vx (pc := 74) okX12_put inX12_put selX12_put q1165 dX12_work_74 (by assumption) rfl (by decide) (Nat.le_of_ble_eq_true rfl) (sX12_put (k := 4)) ?_
      try simp only [u2_I, uR_uR, uR_app, eq_self, Nat.reduceEqDiff, Nat.add_eq_left, Nat.left_eq_add, ↓reduceIte]
      refine r_goto (pc := 77) 101 dX12_work_77 (by decide) ?_
      refine t_vret (pc := 101) dX12_work_101 rfl ?_
      refine ⟨?_, rfl, rfl⟩
      unfold work1; rw [if_neg (by omega), if_neg (by omega), if_pos (by omega)]
    · skip
      refine r_tsIn (pc := 31) 80 dX12_work_31 (by omega) (by omega) (by omega) (by rw [h31]; rfl) (by decide) ?_
      refine r_aload_n (pc := 80) dX12_work_80 rfl ?_
      refine r_iconst (pc := 81) dX12_work_81 ?_
      refine r_iload_n (pc := 82) dX12_work_82 rfl ?_
      refine i_S1ix (pc := 83) okX12_tends staX12_tends q1192 dX12_work_83 (by decide) (Nat.le_of_ble_eq_true rfl) (sX12_tends) ?_
      refine i_V2vx (pc := 86) okX12_put inX12_put selX12_put q1165 dX12_work_86 (by assumption) rfl (by decide) (Nat.le_of_ble_eq_true rfl) (sX12_put (k := 3)) ?_
      try simp only [u2_I, uR_uR, uR_app, eq_self, Nat.reduceEqDiff, Nat.add_eq_left, Nat.left_eq_add, ↓reduceIte]
      refine r_goto (pc := 89) 101 dX12_work_89 (by decide) ?_
      refine t_vret (pc := 101) dX12_work_101 rfl ?_
      refine ⟨?_, rfl, rfl⟩
      unfold work1; rw [if_neg (by omega), if_neg (by omega), if_neg (by omega), if_pos (by omega)]
    · skip
      refine r_tsIn (pc := 31) 92 dX12_work_31 (by omega) (by omega) (by omega) (by rw [h31]; rfl) (by decide) ?_
      refine r_aload_n (pc := 92) dX12_work_92 rfl ?_
      refine r_iconst (pc := 93) dX12_work_93 ?_
      refine r_iconst (pc := 94) dX12_work_94 ?_
      refine i_V2vx (pc := 95) okX12_put inX12_put selX12_put q1165 dX12_work_95 (by assumption) rfl (by decide) (Nat.le_of_ble_eq_true rfl) (sX12_put (k := 5)) ?_
      try simp only [u2_I, uR_uR, uR_app, eq_self, Nat.reduceEqDiff, Nat.add_eq_left, Nat.left_eq_add, ↓reduceIte]
      refine r_goto (pc := 98) 101 dX12_work_98 (by decide) ?_
      refine t_vret (pc := 101) dX12_work_101 rfl ?_
      refine ⟨?_, rfl, rfl⟩
      unfold work1; rw [if_neg (by omega), if_neg (by omega), if_neg (by omega), if_neg (by omega), if_pos (by omega)]
    · skip
      refine r_tsOut (pc := 31) 101 dX12_work_31 (by omega) h31 (by decide) ?_
      refine t_vret (pc := 101) dX12_work_101 rfl ?_
      refine ⟨?_, rfl, rfl⟩
      unfold work1; rw [if_neg (by omega), if_neg (by omega), if_neg (by omega), if_neg (by omega), if_neg (by omega)]; exact (uR_same I (m + 1)).symm
  · skip
    refine r_aload_n (pc := 12) dX12_work_12 rfl ?_
    refine r_getA (pc := 13) dX12_work_13 frX12_7 (by assumption) (by assumption) ?_
    refine r_iconst (pc := 16) dX12_work_16 ?_
    refine r_iald (j := 1) (pc := 17) dX12_work_17 (by assumption) rfl (by omega) (by omega) ?_
    refine r_iconst (pc := 18) dX12_work_18 ?_
    refine r_irem (pc := 19) dX12_work_19 (by omega) (by omega) (by omega) (by omega) ?_
    refine r_iconst (pc := 20) dX12_work_20 ?_
    refine r_icmp_ne (pc := 21) 25 dX12_work_21 (by decide) (by omega) (by omega) (fun h21 => ?_) (fun h21 => ?_)
    · skip
      refine r_aload_n (pc := 25) dX12_work_25 rfl ?_
      refine r_iload_n (pc := 26) dX12_work_26 rfl ?_
      refine r_iconst (pc := 27) dX12_work_27 ?_
      refine i_V2ix (pc := 28) okX12_of inX12_of selX12_of q1137 dX12_work_28 (by assumption) rfl (by decide) (Nat.le_of_ble_eq_true rfl) (sX12_of (k := 10 + 4 * f) (by omega)) ?_
      rw [hjb]
      rcases (show jb = 1 ∨ jb = 2 ∨ jb = 3 ∨ jb = 4 ∨ (jb < 1 ∨ 4 < jb) by omega) with h31 | h31 | h31 | h31 | h31
      · skip
        refine r_tsIn (pc := 31) 60 dX12_work_31 (by omega) (by omega) (by omega) (by rw [h31]; rfl) (by decide) ?_
        refine r_aload_n (pc := 60) dX12_work_60 rfl ?_
        refine r_iload_n (pc := 61) dX12_work_61 rfl ?_
        refine i_V1vx (pc := 62) okX12_teach inX12_teach selX12_teach q1185 dX12_work_62 (by assumption) rfl (by decide) (Nat.le_of_ble_eq_true rfl) (sX12_teach (f := f)) ?_
        try simp only [u2_I, uR_uR, uR_app, eq_self, Nat.reduceEqDiff, Nat.add_eq_left, Nat.left_eq_add, ↓reduceIte]
        refine r_goto (pc := 65) 101 dX12_work_65 (by decide) ?_
        refine t_vret (pc := 101) dX12_work_101 rfl ?_
        refine ⟨?_, rfl, rfl⟩
        unfold work1; rw [if_neg (by omega), if_pos (by omega)]
      · skip
        refine r_tsIn (pc := 31) 68 dX12_work_31 (by omega) (by omega) (by omega) (by rw [h31]; rfl) (by decide) ?_
        refine r_aload_n (pc := 68) dX12_work_68 rfl ?_
        refine r_iconst (pc := 69) dX12_work_69 ?_
        refine r_iload_n (pc := 70) dX12_work_70 rfl ?_
        refine i_S1ix (pc := 71) okX12_makes staX12_makes q1189 dX12_work_71 (by decide) (Nat.le_of_ble_eq_true rfl) (sX12_makes) ?_
        refine i_V2vx (pc := 74) okX12_put inX12_put selX12_put q1165 dX12_work_74 (by assumption) rfl (by decide) (Nat.le_of_ble_eq_true rfl) (sX12_put (k := 4)) ?_
        try simp only [u2_I, uR_uR, uR_app, eq_self, Nat.reduceEqDiff, Nat.add_eq_left, Nat.left_eq_add, ↓reduceIte]
        refine r_goto (pc := 77) 101 dX12_work_77 (by decide) ?_
        refine t_vret (pc := 101) dX12_work_101 rfl ?_
        refine ⟨?_, rfl, rfl⟩
        unfold work1; rw [if_neg (by omega), if_neg (by omega), if_pos (by omega)]
      · skip
        refine r_tsIn (pc := 31) 80 dX12_work_31 (by omega) (by omega) (by omega) (by rw [h31]; rfl) (by decide) ?_
        refine r_aload_n (pc := 80) dX12_work_80 rfl ?_
        refine r_iconst (pc := 81) dX12_work_81 ?_
        refine r_iload_n (pc := 82) dX12_work_82 rfl ?_
        refine i_S1ix (pc := 83) okX12_tends staX12_tends q1192 dX12_work_83 (by decide) (Nat.le_of_ble_eq_true rfl) (sX12_tends) ?_
        refine i_V2vx (pc := 86) okX12_put inX12_put selX12_put q1165 dX12_work_86 (by assumption) rfl (by decide) (Nat.le_of_ble_eq_true rfl) (sX12_put (k := 3)) ?_
        try simp only [u2_I, uR_uR, uR_app, eq_self, Nat.reduceEqDiff, Nat.add_eq_left, Nat.left_eq_add, ↓reduceIte]
        refine r_goto (pc := 89) 101 dX12_work_89 (by decide) ?_
        refine t_vret (pc := 101) dX12_work_101 rfl ?_
        refine ⟨?_, rfl, rfl⟩
        unfold work1; rw [if_neg (by omega), if_neg (by omega), if_neg (by omega), if_pos (by omega)]
      · skip
        refine r_tsIn (pc := 31) 92 dX12_work_31 (by omega) (by omega) (by omega) (by rw [h31]; rfl) (by decide) ?_
        refine r_aload_n (pc := 92) dX12_work_92 rfl ?_
        refine r_iconst (pc := 93) dX12_work_93 ?_
        refine r_iconst (pc := 94) dX12_work_94 ?_
        refine i_V2vx (pc := 95) okX12_put inX12_put selX12_put q1165 dX12_work_95 (by assumption) rfl (by decide) (Nat.le_of_ble_eq_true rfl) (sX12_put (k := 5)) ?_
        try simp only [u2_I, uR_uR, uR_app, eq_self, Nat.reduceEqDiff, Nat.add_eq_left, Nat.left_eq_add, ↓reduceIte]
        refine r_goto (pc := 98) 101 dX12_work_98 (by decide) ?_
        refine t_vret (pc := 101) dX12_work_101 rfl ?_
        refine ⟨?_, rfl, rfl⟩
        unfold work1; rw [if_neg (by omega), if_neg (by omega), if_neg (by omega), if_neg (by omega), if_pos (by omega)]
      · skip
        refine r_tsOut (pc := 31) 101 dX12_work_31 (by omega) h31 (by decide) ?_
        refine t_vret (pc := 101) dX12_work_101 rfl ?_
        refine ⟨?_, rfl, rfl⟩
        unfold work1; rw [if_neg (by omega), if_neg (by omega), if_neg (by omega), if_neg (by omega), if_neg (by omega)]; exact (uR_same I (m + 1)).symm
    · skip
      refine t_vret (pc := 24) dX12_work_24 rfl ?_
      refine ⟨?_, rfl, rfl⟩
      unfold work1; rw [if_pos ⟨by omega, by omega⟩]; exact (uR_same I (m + 1)).symm
def eatR (F : Nat → Int) (b : Bool) : Nat → Int := up (up F 31 (F 31 + lackF F b)) 2 (cut (F 2 - eatF F b (sizeF F)))
theorem sX12_eat {b : Bool} (hm : RfL G C P m := by assumption) (hR : I (m + 1) = R := by first | exact uR_s _ _ _ | rfl) (hF : FI R Y := by assumption) (hY : Y ≤ 1000000 := by omega) (hb : noonF R (R 1) = b := by assumption) : SX12_eat G [.ref m] C I P L (NV C (XV (uR I (m + 1) (eatR R b)) P L)) := by
  obtain ⟨hBm, hKm, hK1, hK2, hK3, hK4, hK5, hK6, hK7, hK8, hK9, hK10, hK11, hP0, hP1, hP2, hP3, hP6, hP7, hP8, hP9, hP10, hP16, hP17⟩ := id hm
  subst hR
  obtain ⟨hs6, hsz⟩ := sizeF_le hF
  have h0 := hF.1
  have hy := hF.2.1
  have g2 := hF.2.2.1
  have hE := eatF_in hF b
  refine en_V (by decide +kernel) (Nat.le_of_ble_eq_true rfl) ?_
  change Wd _ _ _ _ _ _ _ _ 0 [some _, none, none] [] _ _ _ _
  have loop : ∀ (d o : Nat) (i a : Int), o + d = sizeF (I (m + 1)) → i = (o : Int) → a = eatF (I (m + 1)) b o → Wd G yX12_eat cX12_eat 3 none 2 (C.2.1 + 0, C.2.2 + 0) (NV C (XV (uR I (m + 1) (eatR (I (m + 1)) b)) P L)) 4 [some (.ref m), some (.int (zI a)), some (.int (zI i))] [] C I P L := by
    intro d
    induction d using Nat.strongRecOn with
    | _ d ih =>
      intro o i a hd hi ha
      have hEo := hE o (by omega)
      have hlk : lackF (I (m + 1)) b = max 0 (eatF (I (m + 1)) b (sizeF (I (m + 1))) - I (m + 1) 2) := rfl
      refine r_iload_n (pc := 4) dX12_eat_4 rfl ?_
      refine r_aload_n (pc := 5) dX12_eat_5 rfl ?_
      refine i_V0ix (pc := 6) okX12_families inX12_families selX12_families q1118 dX12_eat_6 (by assumption) rfl (by decide) (Nat.le_of_ble_eq_true rfl) (sX12_families) ?_
      refine r_icmp_ge (pc := 9) 32 dX12_eat_9 (by decide) (by omega) (by omega) (fun h9 => ?_) (fun h9 => ?_)
      · skip
        have hos : o = sizeF (I (m + 1)) := by omega
        rw [← hos] at hlk
        refine r_iload_n (pc := 32) dX12_eat_32 rfl ?_
        refine r_aload_n (pc := 33) dX12_eat_33 rfl ?_
        refine r_getA (pc := 34) dX12_eat_34 frX12_7 (by assumption) (by assumption) ?_
        refine r_iconst (pc := 37) dX12_eat_37 ?_
        refine r_iald (j := 2) (pc := 38) dX12_eat_38 (by assumption) rfl (by omega) (by omega) ?_
        refine r_icmp_le (pc := 39) 53 dX12_eat_39 (by decide) (by omega) (by omega) (fun h39 => ?_) (fun h39 => ?_)
        · skip
          refine r_iconst (pc := 53) dX12_eat_53 ?_
          refine r_istore_n (pc := 54) dX12_eat_54 (by decide) ?_
          refine r_aload_n (pc := 55) dX12_eat_55 rfl ?_
          refine r_getA (pc := 56) dX12_eat_56 frX12_7 (by assumption) (by assumption) ?_
          refine r_bipush (pc := 59) dX12_eat_59 (by decide) ?_
          refine r_dup2 (pc := 61) dX12_eat_61 rfl rfl ?_
          refine r_iald (j := 31) (pc := 62) dX12_eat_62 (by assumption) rfl (by omega) (by omega) ?_
          refine r_iload_n (pc := 63) dX12_eat_63 rfl ?_
          refine r_iadd (pc := 64) dX12_eat_64 ?_
          refine r_iast (j := 31) (pc := 65) dX12_eat_65 (by assumption) (by omega) rfl (by omega) (by omega) ?_
          try simp only [u2_I, uR_uR, uR_app, eq_self, Nat.reduceEqDiff, Nat.add_eq_left, Nat.left_eq_add, ↓reduceIte]
          refine r_aload_n (pc := 66) dX12_eat_66 rfl ?_
          refine r_iconst (pc := 67) dX12_eat_67 ?_
          refine r_iload_n (pc := 68) dX12_eat_68 rfl ?_
          refine r_ineg (pc := 69) dX12_eat_69 ?_
          refine i_V2vx (pc := 70) okX12_put inX12_put selX12_put q1165 dX12_eat_70 (by assumption) rfl (by decide) (Nat.le_of_ble_eq_true rfl) (sX12_put (k := 2) (hv := by rw [up_n _ _ (by decide)]; omega)) ?_
          try simp only [u2_I, uR_uR, uR_app, eq_self, Nat.reduceEqDiff, Nat.add_eq_left, Nat.left_eq_add, ↓reduceIte]
          refine t_vret (pc := 73) dX12_eat_73 rfl ?_
          refine ⟨?_, rfl, rfl⟩
          rw [← ha] at hlk
          unfold eatR
          rw [← hos, ← ha, up_n _ _ (by decide), ← Int.sub_eq_add_neg]
          first | rw [show lackF (I (m + 1)) b = a - I (m + 1) 2 by omega] | rw [show lackF (I (m + 1)) b = 0 by omega]
        · skip
          refine r_iload_n (pc := 42) dX12_eat_42 rfl ?_
          refine r_aload_n (pc := 43) dX12_eat_43 rfl ?_
          refine r_getA (pc := 44) dX12_eat_44 frX12_7 (by assumption) (by assumption) ?_
          refine r_iconst (pc := 47) dX12_eat_47 ?_
          refine r_iald (j := 2) (pc := 48) dX12_eat_48 (by assumption) rfl (by omega) (by omega) ?_
          refine r_isub (pc := 49) dX12_eat_49 ?_
          refine r_goto (pc := 50) 54 dX12_eat_50 (by decide) ?_
          refine r_istore_n (pc := 54) dX12_eat_54 (by decide) ?_
          refine r_aload_n (pc := 55) dX12_eat_55 rfl ?_
          refine r_getA (pc := 56) dX12_eat_56 frX12_7 (by assumption) (by assumption) ?_
          refine r_bipush (pc := 59) dX12_eat_59 (by decide) ?_
          refine r_dup2 (pc := 61) dX12_eat_61 rfl rfl ?_
          refine r_iald (j := 31) (pc := 62) dX12_eat_62 (by assumption) rfl (by omega) (by omega) ?_
          refine r_iload_n (pc := 63) dX12_eat_63 rfl ?_
          refine r_iadd (pc := 64) dX12_eat_64 ?_
          refine r_iast (j := 31) (pc := 65) dX12_eat_65 (by assumption) (by omega) rfl (by omega) (by omega) ?_
          try simp only [u2_I, uR_uR, uR_app, eq_self, Nat.reduceEqDiff, Nat.add_eq_left, Nat.left_eq_add, ↓reduceIte]
          refine r_aload_n (pc := 66) dX12_eat_66 rfl ?_
          refine r_iconst (pc := 67) dX12_eat_67 ?_
          refine r_iload_n (pc := 68) dX12_eat_68 rfl ?_
          refine r_ineg (pc := 69) dX12_eat_69 ?_
          refine i_V2vx (pc := 70) okX12_put inX12_put selX12_put q1165 dX12_eat_70 (by assumption) rfl (by decide) (Nat.le_of_ble_eq_true rfl) (sX12_put (k := 2) (hv := by rw [up_n _ _ (by decide)]; omega)) ?_
          try simp only [u2_I, uR_uR, uR_app, eq_self, Nat.reduceEqDiff, Nat.add_eq_left, Nat.left_eq_add, ↓reduceIte]
          refine t_vret (pc := 73) dX12_eat_73 rfl ?_
          refine ⟨?_, rfl, rfl⟩
          rw [← ha] at hlk
          unfold eatR
          rw [← hos, ← ha, up_n _ _ (by decide), ← Int.sub_eq_add_neg]
          first | rw [show lackF (I (m + 1)) b = a - I (m + 1) 2 by omega] | rw [show lackF (I (m + 1)) b = 0 by omega]
      · skip
        refine r_iload_n (pc := 12) dX12_eat_12 rfl ?_
        refine r_aload_n (pc := 13) dX12_eat_13 rfl ?_
        refine r_iload_n (pc := 14) dX12_eat_14 rfl ?_
        refine r_aload_n (pc := 15) dX12_eat_15 rfl ?_
        refine r_getA (pc := 16) dX12_eat_16 frX12_7 (by assumption) (by assumption) ?_
        refine r_iconst (pc := 19) dX12_eat_19 ?_
        refine r_iald (j := 1) (pc := 20) dX12_eat_20 (by assumption) rfl (by omega) (by omega) ?_
        have ho6 : o < 6 := by omega
        rw [hi]
        refine i_V2ix (pc := 21) okX12_eatsOf inX12_eatsOf selX12_eatsOf q1173 dX12_eat_21 (by assumption) rfl (by decide) (Nat.le_of_ble_eq_true rfl) (sX12_eatsOf (f := o)) ?_
        rw [hb]
        refine r_iadd (pc := 24) dX12_eat_24 ?_
        refine r_istore_n (pc := 25) dX12_eat_25 (by decide) ?_
        refine r_iinc (pc := 26) dX12_eat_26 rfl ?_
        refine r_goto (pc := 29) 4 dX12_eat_29 (by decide) ?_
        refine ih (d - 1) (by omega) (o + 1) _ _ (by omega) (by omega) ?_
        rw [eatF, ha]
  refine r_iconst (pc := 0) dX12_eat_0 ?_
  refine r_istore_n (pc := 1) dX12_eat_1 (by decide) ?_
  refine r_iconst (pc := 2) dX12_eat_2 ?_
  refine r_istore_n (pc := 3) dX12_eat_3 (by decide) ?_
  exact loop (sizeF (I (m + 1))) 0 _ _ (by omega) rfl rfl
theorem sX12_freeze (hm : RfL G C P m := by assumption) (hR : I (m + 1) = R := by first | exact uR_s _ _ _ | rfl) (hF : FI R Y := by assumption) : SX12_freeze G [.ref m] C I P L (NV C (XV (uR I (m + 1) (warmF R (sizeF R))) P L)) := by
  obtain ⟨hBm, hKm, hK1, hK2, hK3, hK4, hK5, hK6, hK7, hK8, hK9, hK10, hK11, hP0, hP1, hP2, hP3, hP6, hP7, hP8, hP9, hP10, hP16, hP17⟩ := id hm
  subst hR
  obtain ⟨hs6, hsz⟩ := sizeF_le hF
  refine en_V (by decide +kernel) (Nat.le_of_ble_eq_true rfl) ?_
  change Wd _ _ _ _ _ _ _ _ 0 [some _, none, none] [] _ _ _ _
  have loop : ∀ (d o : Nat) (i : Int) (w : Option Value) (J : MI), o + d = sizeF (I (m + 1)) → i = (o : Int) → J = uR I (m + 1) (warmF (I (m + 1)) o) → Wd G yX12_freeze cX12_freeze 3 none 1 (C.2.1 + 0, C.2.2 + 0) (NV C (XV (uR I (m + 1) (warmF (I (m + 1)) (sizeF (I (m + 1))))) P L)) 2 [some (.ref m), some (.int (zI i)), w] [] C J P L := by
    intro d
    induction d using Nat.strongRecOn with
    | _ d ih =>
      intro o i w J hd hi hJ
      subst hJ
      have h6 : warmF (I (m + 1)) o 6 = I (m + 1) 6 := fx_warm _ (by omega) (by omega) _
      have hFI : FI (warmF (I (m + 1)) o) Y := FI_warm hF o (by omega)
      have hst : warmF (I (m + 1)) (o + 1) = warm1 (warmF (I (m + 1)) o) o := rfl
      generalize hT : warmF (I (m + 1)) o = T at h6 hFI hst ⊢
      have g5 := hFI.2.2.2.2.2.1
      refine r_iload_n (pc := 2) dX12_freeze_2 rfl ?_
      refine r_aload_n (pc := 3) dX12_freeze_3 rfl ?_
      refine i_V0ix (pc := 4) okX12_families inX12_families selX12_families q1118 dX12_freeze_4 (by assumption) rfl (by decide) (Nat.le_of_ble_eq_true rfl) (sX12_families) ?_
      try simp only [u2_I, uR_uR, uR_app, eq_self, Nat.reduceEqDiff, Nat.add_eq_left, Nat.left_eq_add, ↓reduceIte]
      refine r_icmp_ge (pc := 7) 82 dX12_freeze_7 (by decide) (by omega) (by omega) (fun h7 => ?_) (fun h7 => ?_)
      · skip
        refine t_vret (pc := 82) dX12_freeze_82 rfl ?_
        exact ⟨by rw [show sizeF (I (m + 1)) = o by omega, hT], rfl, rfl⟩
      · skip
        have ho6 : o < 6 := by omega
        have hmo := (hFI.2.2.2.2.2.2.2 o ho6).2.1
        have hmo1 := (hFI.2.2.2.2.2.2.2 o ho6).2.2.2.2 (by omega)
        refine r_bipush (pc := 10) dX12_freeze_10 (by decide) ?_
        refine r_iconst (pc := 12) dX12_freeze_12 ?_
        refine r_iload_n (pc := 13) dX12_freeze_13 rfl ?_
        refine r_imul (pc := 14) dX12_freeze_14 ?_
        refine r_iadd (pc := 15) dX12_freeze_15 ?_
        refine r_iconst (pc := 16) dX12_freeze_16 ?_
        refine r_iadd (pc := 17) dX12_freeze_17 ?_
        refine r_istore_n (pc := 18) dX12_freeze_18 (by decide) ?_
        refine r_aload_n (pc := 19) dX12_freeze_19 rfl ?_
        refine r_getA (pc := 20) dX12_freeze_20 frX12_7 (by assumption) (by assumption) ?_
        refine r_iconst (pc := 23) dX12_freeze_23 ?_
        refine r_iald (j := 5) (pc := 24) dX12_freeze_24 (by assumption) rfl (by omega) (by omega) ?_
        try simp only [u2_I, uR_uR, uR_app, eq_self, Nat.reduceEqDiff, Nat.add_eq_left, Nat.left_eq_add, ↓reduceIte]
        refine r_if_le (pc := 25) 41 dX12_freeze_25 (by decide) (by omega) (fun h25 => ?_) (fun h25 => ?_)
        · skip
          refine r_aload_n (pc := 41) dX12_freeze_41 rfl ?_
          refine r_getA (pc := 42) dX12_freeze_42 frX12_7 (by assumption) (by assumption) ?_
          refine r_bipush (pc := 45) dX12_freeze_45 (by decide) ?_
          refine r_dup2 (pc := 47) dX12_freeze_47 rfl rfl ?_
          refine r_iald (j := 32) (pc := 48) dX12_freeze_48 (by assumption) rfl (by omega) (by omega) ?_
          try simp only [u2_I, uR_uR, uR_app, eq_self, Nat.reduceEqDiff, Nat.add_eq_left, Nat.left_eq_add, ↓reduceIte]
          refine r_iconst (pc := 49) dX12_freeze_49 ?_
          refine r_iadd (pc := 50) dX12_freeze_50 ?_
          refine r_iast (j := 32) (pc := 51) dX12_freeze_51 (by assumption) (by omega) rfl (by omega) (by omega) ?_
          try simp only [u2_I, uR_uR, uR_app, eq_self, Nat.reduceEqDiff, Nat.add_eq_left, Nat.left_eq_add, ↓reduceIte]
          refine r_aload_n (pc := 52) dX12_freeze_52 rfl ?_
          refine r_getA (pc := 53) dX12_freeze_53 frX12_7 (by assumption) (by assumption) ?_
          refine r_iload_n (pc := 56) dX12_freeze_56 rfl ?_
          refine r_dup2 (pc := 57) dX12_freeze_57 rfl rfl ?_
          refine r_iald (j := 8 + 4 * o) (pc := 58) dX12_freeze_58 (by assumption) (by omega) (by omega) (by omega) ?_
          try simp only [u2_I, uR_uR, uR_app, eq_self, Nat.reduceEqDiff, Nat.add_eq_left, Nat.left_eq_add, ↓reduceIte]
          refine r_aload_n (pc := 59) dX12_freeze_59 rfl ?_
          refine r_getA (pc := 60) dX12_freeze_60 frX12_7 (by assumption) (by assumption) ?_
          refine r_iload_n (pc := 63) dX12_freeze_63 rfl ?_
          refine r_iald (j := 8 + 4 * o) (pc := 64) dX12_freeze_64 (by assumption) (by omega) (by omega) (by omega) ?_
          try simp only [u2_I, uR_uR, uR_app, eq_self, Nat.reduceEqDiff, Nat.add_eq_left, Nat.left_eq_add, ↓reduceIte]
          rw [up_n T (T 32 + 1) (show 8 + 4 * o ≠ 32 by omega)]
          refine r_iconst (pc := 65) dX12_freeze_65 ?_
          refine r_icmp_le (pc := 66) 73 dX12_freeze_66 (by decide) (by omega) (by omega) (fun h66 => ?_) (fun h66 => ?_)
          · skip
            refine r_iconst (pc := 73) dX12_freeze_73 ?_
            refine r_isub (pc := 74) dX12_freeze_74 ?_
            refine r_iast (j := 8 + 4 * o) (pc := 75) dX12_freeze_75 (by assumption) (by omega) (by omega) (by omega) (by omega) ?_
            try simp only [u2_I, uR_uR, uR_app, eq_self, Nat.reduceEqDiff, Nat.add_eq_left, Nat.left_eq_add, ↓reduceIte]
            refine r_iinc (pc := 76) dX12_freeze_76 rfl ?_
            refine r_goto (pc := 79) 2 dX12_freeze_79 (by decide) ?_
            refine ih (d - 1) (by omega) (o + 1) _ _ _ (by omega) (by omega) ?_
            rw [hst]; unfold warm1; rw [if_neg (by omega), show max 1 (T (8 + 4 * o) - 1) = T (8 + 4 * o) - 0 by omega]
          · skip
            refine r_iconst (pc := 69) dX12_freeze_69 ?_
            refine r_goto (pc := 70) 74 dX12_freeze_70 (by decide) ?_
            refine r_isub (pc := 74) dX12_freeze_74 ?_
            refine r_iast (j := 8 + 4 * o) (pc := 75) dX12_freeze_75 (by assumption) (by omega) (by omega) (by omega) (by omega) ?_
            try simp only [u2_I, uR_uR, uR_app, eq_self, Nat.reduceEqDiff, Nat.add_eq_left, Nat.left_eq_add, ↓reduceIte]
            refine r_iinc (pc := 76) dX12_freeze_76 rfl ?_
            refine r_goto (pc := 79) 2 dX12_freeze_79 (by decide) ?_
            refine ih (d - 1) (by omega) (o + 1) _ _ _ (by omega) (by omega) ?_
            rw [hst]; unfold warm1; rw [if_neg (by omega), show max 1 (T (8 + 4 * o) - 1) = T (8 + 4 * o) - 1 by omega]
        · skip
          refine r_aload_n (pc := 28) dX12_freeze_28 rfl ?_
          refine r_getA (pc := 29) dX12_freeze_29 frX12_7 (by assumption) (by assumption) ?_
          refine r_iconst (pc := 32) dX12_freeze_32 ?_
          refine r_dup2 (pc := 33) dX12_freeze_33 rfl rfl ?_
          refine r_iald (j := 5) (pc := 34) dX12_freeze_34 (by assumption) rfl (by omega) (by omega) ?_
          try simp only [u2_I, uR_uR, uR_app, eq_self, Nat.reduceEqDiff, Nat.add_eq_left, Nat.left_eq_add, ↓reduceIte]
          refine r_iconst (pc := 35) dX12_freeze_35 ?_
          refine r_isub (pc := 36) dX12_freeze_36 ?_
          refine r_iast (j := 5) (pc := 37) dX12_freeze_37 (by assumption) (by omega) rfl (by omega) (by omega) ?_
          try simp only [u2_I, uR_uR, uR_app, eq_self, Nat.reduceEqDiff, Nat.add_eq_left, Nat.left_eq_add, ↓reduceIte]
          refine r_goto (pc := 38) 76 dX12_freeze_38 (by decide) ?_
          refine r_iinc (pc := 76) dX12_freeze_76 rfl ?_
          refine r_goto (pc := 79) 2 dX12_freeze_79 (by decide) ?_
          refine ih (d - 1) (by omega) (o + 1) _ _ _ (by omega) (by omega) ?_
          rw [hst]; unfold warm1; rw [if_pos (by omega)]
  refine r_iconst (pc := 0) dX12_freeze_0 ?_
  refine r_istore_n (pc := 1) dX12_freeze_1 (by decide) ?_
  exact loop (sizeF (I (m + 1))) 0 _ _ _ (by omega) rfl (uR_same I (m + 1)).symm
theorem forg_hi (F : Nat → Int) : ∀ n g, n ≤ g → forgF F n (9 + 4 * g) = F (9 + 4 * g) := by
  intro n
  induction n with
  | zero => intro g _; rfl
  | succ n ih => intro g hg; unfold forgF; rw [up_n _ _ (by omega)]; exact ih g (by omega)
def duskR (F : Nat → Int) : Nat → Int := forgF (loseF (warmF (eatR (workF F (sizeF F)) false) (sizeF F))) (sizeF F)
def noonR (F : Nat → Int) (s : Int) : Nat → Int := remF (eatR (harvF F s) true) (sizeF F)
theorem FI_eatR {F : Nat → Int} {Y : Int} (h : FI F Y) (b : Bool) : FI (eatR F b) Y := FI_st (FI_hi h (by decide)) (by omega) (cut_in _).1 (cut_in _).2
theorem eatR_gw (F : Nat → Int) (b : Bool) : eatR F b = gw F (cut (F 2 - eatF F b (sizeF F))) (F 31 + lackF F b) := by
  unfold eatR gw; exact up_comm _ _ _ (by decide)
theorem feedF_gw (F : Nat → Int) (b : Bool) : feedF F b = gw F (cut (F 2 - eatF F b (sizeF F))) (F 31) := by
  unfold feedF gw
  have h := up_self (up F 2 (cut (F 2 - eatF F b (sizeF F)))) 31
  rw [up_n F (cut (F 2 - eatF F b (sizeF F))) (show 31 ≠ 2 by decide)] at h
  exact h.symm
/-- the reference's year is the farm's -/
theorem goR_eq {F : Nat → Int} (hs : sizeF F ≤ 6) (bad : Bool) : up (if noonF F (F 1) = true then noonR F (if bad then sownF F / 2 else sownF F) else duskR F) 1 (F 1 + 1) = goF F bad ∧ (if noonF F (F 1) = true then noonR F (if bad then sownF F / 2 else sownF F) else duskR F) 31 = F 31 + wantF F bad ∧ (if noonF F (F 1) = true then noonR F (if bad then sownF F / 2 else sownF F) else duskR F) 1 = F 1 := by
  have hp31 : preF F bad 31 = F 31 := by
    unfold preF
    split
    · exact fx_harv _ _ (by omega)
    · exact fx_work _ (by omega) (by omega) _
  have hp1 : preF F bad 1 = F 1 := fx_pre F bad (by unfold fixd; omega)
  have hsz : sizeF (preF F bad) = sizeF F := sz_pre F bad
  have key : ∃ Q : Nat → Int, ∃ g : Int, (if noonF F (F 1) = true then noonR F (if bad then sownF F / 2 else sownF F) else duskR F) = gw Q g (F 31 + wantF F bad) ∧ postF (feedF (preF F bad) (noonF F (F 1))) (noonF F (F 1)) = gw Q g (F 31) ∧ Q 1 = F 1 := by
    by_cases hn : noonF F (F 1) = true
    · rw [if_pos hn]
      have hP : preF F bad = harvF F (if bad then sownF F / 2 else sownF F) := by unfold preF; rw [if_pos hn]
      refine ⟨remF (preF F bad) (sizeF F), cut (preF F bad 2 - eatF (preF F bad) true (sizeF (preF F bad))), ?_, ?_, ?_⟩
      · unfold noonR
        rw [← hP, eatR_gw, gw_rem _ _ _ _ hs, hp31]
        unfold wantF
        rw [hn]
      · unfold postF
        rw [hn, if_pos rfl, sz_feed, hsz, feedF_gw, gw_rem _ _ _ _ hs, hp31, hsz]
      · rw [fx_rem _ (by omega)]; exact hp1
    · have hnf : noonF F (F 1) = false := by simpa using hn
      rw [if_neg hn]
      have hP : preF F bad = workF F (sizeF F) := by unfold preF; rw [if_neg hn]
      refine ⟨forgF (loseF (warmF (preF F bad) (sizeF F))) (sizeF F), cut (preF F bad 2 - eatF (preF F bad) false (sizeF (preF F bad))) - cut (preF F bad 2 - eatF (preF F bad) false (sizeF (preF F bad))) / 10, ?_, ?_, ?_⟩
      · unfold duskR
        rw [← hP, eatR_gw, gw_warm _ _ _ _ hs, gw_lose, gw_forg _ _ _ _ hs, hp31]
        unfold wantF
        rw [hnf]
      · unfold postF
        rw [hnf, if_neg (by decide), sz_feed, hsz, feedF_gw, gw_warm _ _ _ _ hs, gw_lose, hp31]
        have e : sizeF (gw (loseF (warmF (preF F bad) (sizeF F))) (cut (preF F bad 2 - eatF (preF F bad) false (sizeF (preF F bad))) - cut (preF F bad 2 - eatF (preF F bad) false (sizeF (preF F bad))) / 10) (F 31)) = sizeF F := by
          rw [gw_sz]
          rw [sz_same (F := warmF (preF F bad) (sizeF F)) (fx_lose _ (by omega)), sz_same (F := preF F bad) (fx_warm _ (by omega) (by omega) _), hsz]
        first
          | rw [gw_forg _ _ _ _ hs]
          | (rw [e, gw_forg _ _ _ _ hs])
        rw [hsz]
      · rw [fx_forg _ (by omega), fx_lose _ (by omega), fx_warm _ (by omega) (by omega)]; exact hp1
  obtain ⟨Q, g, k1, k2, k3⟩ := key
  rw [k1]
  refine ⟨?_, gw_31 _ _ _, ?_⟩
  · unfold goF; rw [k2, gw_u31]
  · rw [gw_a _ _ _ (by decide) (by decide)]; exact k3
end REF2

