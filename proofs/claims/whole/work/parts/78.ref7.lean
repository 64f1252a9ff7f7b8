/-! the reference's calls that read and lay -/
theorem rdM_same (m : Nat) (I : MI) (L : ML) : rdM m I L = (I (m + 1), I (m + 2), I (m + 3), I (m + 4), I (m + 9), I m 11, L m 4, L m 5) := rfl
section REF7
variable {G : WG} {C : CF} {I : MI} {P : MP} {L : ML} {m : Nat} {R : Nat → Int} {Y : Int}
def yearM (T : RS) (y : Int) : Int × RS := if 2 ≤ y ∧ y ≤ 70 then (T.1 0, zN T (begR T.1 y)) else (-2, zB T)
theorem sX12_year {y : Int} (hm : RfL G C P m := by assumption) (hy : iR y := by omega) : SX12_year G [.ref m, .int (zI y)] C I P L (NI C (QZ m (yearM (rdM m I L) y).1 (yearM (rdM m I L) y).2 P)) := by
  obtain ⟨hBm, hKm, hK1, hK2, hK3, hK4, hK5, hK6, hK7, hK8, hK9, hK10, hK11, hP0, hP1, hP2, hP3, hP6, hP7, hP8, hP9, hP10, hP16, hP17⟩ := id hm
  refine en_I (by decide +kernel) (Nat.le_of_ble_eq_true rfl) ?_
  change Wd _ _ _ _ _ _ _ _ 0 [some _, some _, none] [] _ _ _ _
  refine r_iload_n (pc := 0) dX12_year_0 rfl ?_
  refine r_i2l (pc := 1) dX12_year_1 (by first | omega | (split <;> decide)) ?_
  refine r_ldc2_w (v := (2 : Int)) (pc := 2) dX12_year_2 kcX12_60 ?_
  refine r_ldc2_w (v := (70 : Int)) (pc := 5) dX12_year_5 kcX12_62 ?_
  refine i_S3ix (pc := 8) okX12_in staX12_in q1098 dX12_year_8 (by decide) (Nat.le_of_ble_eq_true rfl) (sX12_in) ?_
  refine r_if_ne (pc := 11) 21 dX12_year_11 (by decide) (by first | omega | (split <;> decide)) (fun h11 => ?_) (fun h11 => ?_)
  · skip
    refine r_aload_n (pc := 21) dX12_year_21 rfl ?_
    refine r_getA (pc := 22) dX12_year_22 frX12_7 (by assumption) (by assumption) ?_
    refine r_iconst (pc := 25) dX12_year_25 ?_
    refine r_iald (j := 0) (pc := 26) dX12_year_26 (by assumption) rfl (by first | omega | (split <;> decide)) (by omega) ?_
    refine r_istore_n (pc := 27) dX12_year_27 (by decide) ?_
    refine r_aload_n (pc := 28) dX12_year_28 rfl ?_
    refine r_getA (pc := 29) dX12_year_29 frX12_7 (by assumption) (by assumption) ?_
    refine r_iload_n (pc := 32) dX12_year_32 rfl ?_
    refine i_S2vx (pc := 33) okX12_begin staX12_begin q1033 dX12_year_33 (by decide) (Nat.le_of_ble_eq_true rfl) (sX12_begin) ?_
    try simp only [u2_I, uR_uR, uR_app, eq_self, Nat.reduceEqDiff, Nat.add_eq_left, Nat.left_eq_add, ↓reduceIte]
    refine r_iload_n (pc := 36) dX12_year_36 rfl ?_
    refine t_iret (pc := 37) dX12_year_37 rfl rfl ?_
    unfold yearM
    rw [if_pos (wt h11)]
    exact ⟨rfl, rdM_N m I L _, rfl⟩
  · skip
    refine r_aload_n (pc := 14) dX12_year_14 rfl ?_
    refine r_bipush (pc := 15) dX12_year_15 (by decide) ?_
    refine i_V1ix (pc := 17) okX12_bad inX12_bad selX12_bad q1101 dX12_year_17 (by assumption) rfl (by decide) (Nat.le_of_ble_eq_true rfl) (sX12_bad) ?_
    refine t_iret (pc := 20) dX12_year_20 rfl rfl ?_
    unfold yearM
    rw [if_neg (wf h11)]
    exact QZ_bad
def storeM (T : RS) (w n : Int) : Int × RS := if (0 ≤ w ∧ w ≤ 3) ∧ (0 ≤ n ∧ n ≤ 9999) then (T.1 (2 + w.toNat), zN T (up T.1 (2 + w.toNat) n)) else (-2, zB T)
theorem sX12_store {w n : Int} (hm : RfL G C P m := by assumption) (hw : iR w := by omega) (hn : iR n := by omega) : SX12_store G [.ref m, .int (zI w), .int (zI n)] C I P L (NI C (QZ m (storeM (rdM m I L) w n).1 (storeM (rdM m I L) w n).2 P)) := by
  obtain ⟨hBm, hKm, hK1, hK2, hK3, hK4, hK5, hK6, hK7, hK8, hK9, hK10, hK11, hP0, hP1, hP2, hP3, hP6, hP7, hP8, hP9, hP10, hP16, hP17⟩ := id hm
  refine en_I (by decide +kernel) (Nat.le_of_ble_eq_true rfl) ?_
  change Wd _ _ _ _ _ _ _ _ 0 [some _, some _, some _, none] [] _ _ _ _
  refine r_iload_n (pc := 0) dX12_store_0 rfl ?_
  refine r_i2l (pc := 1) dX12_store_1 (by first | omega | (split <;> decide)) ?_
  refine r_lconst (v := 0) (pc := 2) dX12_store_2 (by decide) ?_
  refine r_ldc2_w (v := (3 : Int)) (pc := 3) dX12_store_3 kcX12_68 ?_
  refine i_S3ix (pc := 6) okX12_in staX12_in q1098 dX12_store_6 (by decide) (Nat.le_of_ble_eq_true rfl) (sX12_in) ?_
  refine r_if_eq (pc := 9) 24 dX12_store_9 (by decide) (by first | omega | (split <;> decide)) (fun h9 => ?_) (fun h9 => ?_)
  · skip
    refine r_aload_n (pc := 24) dX12_store_24 rfl ?_
    refine r_bipush (pc := 25) dX12_store_25 (by decide) ?_
    refine i_V1ix (pc := 27) okX12_bad inX12_bad selX12_bad q1101 dX12_store_27 (by assumption) rfl (by decide) (Nat.le_of_ble_eq_true rfl) (sX12_bad) ?_
    refine t_iret (pc := 30) dX12_store_30 rfl rfl ?_
    unfold storeM
    rw [if_neg (fun hz => by first | exact (wf h9) hz.1 | exact (wf h21) hz.2)]
    exact QZ_bad
  · skip
    refine r_iload_n (pc := 12) dX12_store_12 rfl ?_
    refine r_i2l (pc := 13) dX12_store_13 (by first | omega | (split <;> decide)) ?_
    refine r_lconst (v := 0) (pc := 14) dX12_store_14 (by decide) ?_
    refine r_ldc2_w (v := (9999 : Int)) (pc := 15) dX12_store_15 kcX12_70 ?_
    refine i_S3ix (pc := 18) okX12_in staX12_in q1098 dX12_store_18 (by decide) (Nat.le_of_ble_eq_true rfl) (sX12_in) ?_
    refine r_if_ne (pc := 21) 31 dX12_store_21 (by decide) (by first | omega | (split <;> decide)) (fun h21 => ?_) (fun h21 => ?_)
    · skip
      have h1 := wt h9
      have h2 := wt h21
      refine r_aload_n (pc := 31) dX12_store_31 rfl ?_
      refine r_getA (pc := 32) dX12_store_32 frX12_7 (by assumption) (by assumption) ?_
      refine r_iconst (pc := 35) dX12_store_35 ?_
      refine r_iload_n (pc := 36) dX12_store_36 rfl ?_
      refine r_iadd (pc := 37) dX12_store_37 ?_
      refine r_iald (j := 2 + w.toNat) (pc := 38) dX12_store_38 (by assumption) (by omega) (by first | omega | (split <;> decide)) (by omega) ?_
      refine r_istore_n (pc := 39) dX12_store_39 (by decide) ?_
      refine r_aload_n (pc := 40) dX12_store_40 rfl ?_
      refine r_getA (pc := 41) dX12_store_41 frX12_7 (by assumption) (by assumption) ?_
      refine r_iconst (pc := 44) dX12_store_44 ?_
      refine r_iload_n (pc := 45) dX12_store_45 rfl ?_
      refine r_iadd (pc := 46) dX12_store_46 ?_
      refine r_iload_n (pc := 47) dX12_store_47 rfl ?_
      refine r_iast (j := 2 + w.toNat) (pc := 48) dX12_store_48 (by assumption) (by first | omega | (split <;> decide)) (by omega) (by first | omega | (split <;> decide)) (by omega) ?_
      try simp only [u2_I, uR_uR, uR_app, eq_self, Nat.reduceEqDiff, Nat.add_eq_left, Nat.left_eq_add, ↓reduceIte]
      refine r_iload_n (pc := 49) dX12_store_49 rfl ?_
      refine t_iret (pc := 50) dX12_store_50 rfl rfl ?_
      unfold storeM
      rw [if_pos ⟨h1, h2⟩]
      exact ⟨rfl, rdM_N m I L _, rfl⟩
    · skip
      refine r_aload_n (pc := 24) dX12_store_24 rfl ?_
      refine r_bipush (pc := 25) dX12_store_25 (by decide) ?_
      refine i_V1ix (pc := 27) okX12_bad inX12_bad selX12_bad q1101 dX12_store_27 (by assumption) rfl (by decide) (Nat.le_of_ble_eq_true rfl) (sX12_bad) ?_
      refine t_iret (pc := 30) dX12_store_30 rfl rfl ?_
      unfold storeM
      rw [if_neg (fun hz => by first | exact (wf h9) hz.1 | exact (wf h21) hz.2)]
      exact QZ_bad
theorem setlF_eq (N : Nat → Int) {s : Nat} (k mo y : Int) (hs : s ≤ 5) : up (up (up (up (up N (7 + 4 * s) k) (8 + 4 * s) mo) (9 + 4 * s) y) (10 + 4 * s) 0) 6 (N 6 + 1) = setlF N s k mo y := by
  unfold setlF
  funext j
  simp only [up_app]
  (repeat' split) <;> first | rfl | (exfalso; omega)
theorem sX12_layFamily {a n : Nat} {s : Nat} {k mo y : Int} (hK : C.1 a = some (.inr (0, n)) := by assumption) (hB : gB G ≤ a := by omega) (hn : 116 ≤ n ∧ n ≤ 236 := by omega) (hR : I a = R := by first | exact uR_s _ _ _ | rfl) (hs : R 6 = (s : Int) := by assumption) (hs5 : s ≤ 5 := by omega) : SX12_layFamily G [.ref a, .int (zI k), .int (zI mo), .int (zI y)] C I P L (NV C (XV (uR I a (setlF R s k mo y)) P L)) := by
  subst hR
  refine en_V (by decide +kernel) (Nat.le_of_ble_eq_true rfl) ?_
  change Wd _ _ _ _ _ _ _ _ 0 [some _, some _, some _, some _, none] [] _ _ _ _
  refine r_bipush (pc := 0) dX12_layFamily_0 (by decide) ?_
  refine r_iconst (pc := 2) dX12_layFamily_2 ?_
  refine r_aload_n (pc := 3) dX12_layFamily_3 rfl ?_
  refine r_bipush (pc := 4) dX12_layFamily_4 (by decide) ?_
  refine r_iald (j := 6) (pc := 6) dX12_layFamily_6 (by assumption) rfl (by omega) (by omega) ?_
  refine r_imul (pc := 7) dX12_layFamily_7 ?_
  refine r_iadd (pc := 8) dX12_layFamily_8 ?_
  refine r_istore (pc := 9) dX12_layFamily_9 (by decide) ?_
  refine r_aload_n (pc := 11) dX12_layFamily_11 rfl ?_
  refine r_iload (pc := 12) dX12_layFamily_12 rfl ?_
  refine r_iconst (pc := 14) dX12_layFamily_14 ?_
  refine r_iadd (pc := 15) dX12_layFamily_15 ?_
  refine r_iload_n (pc := 16) dX12_layFamily_16 rfl ?_
  refine r_iast (j := 7 + 4 * s) (pc := 17) dX12_layFamily_17 (by assumption) (by omega) (by omega) (by omega) (by omega) ?_
  try simp only [u2_I, uR_uR, uR_app, eq_self, Nat.reduceEqDiff, Nat.add_eq_left, Nat.left_eq_add, ↓reduceIte]
  refine r_aload_n (pc := 18) dX12_layFamily_18 rfl ?_
  refine r_iload (pc := 19) dX12_layFamily_19 rfl ?_
  refine r_iconst (pc := 21) dX12_layFamily_21 ?_
  refine r_iadd (pc := 22) dX12_layFamily_22 ?_
  refine r_iload_n (pc := 23) dX12_layFamily_23 rfl ?_
  refine r_iast (j := 8 + 4 * s) (pc := 24) dX12_layFamily_24 (by assumption) (by omega) (by omega) (by omega) (by omega) ?_
  try simp only [u2_I, uR_uR, uR_app, eq_self, Nat.reduceEqDiff, Nat.add_eq_left, Nat.left_eq_add, ↓reduceIte]
  refine r_aload_n (pc := 25) dX12_layFamily_25 rfl ?_
  refine r_iload (pc := 26) dX12_layFamily_26 rfl ?_
  refine r_iconst (pc := 28) dX12_layFamily_28 ?_
  refine r_iadd (pc := 29) dX12_layFamily_29 ?_
  refine r_iload_n (pc := 30) dX12_layFamily_30 rfl ?_
  refine r_iast (j := 9 + 4 * s) (pc := 31) dX12_layFamily_31 (by assumption) (by omega) (by omega) (by omega) (by omega) ?_
  try simp only [u2_I, uR_uR, uR_app, eq_self, Nat.reduceEqDiff, Nat.add_eq_left, Nat.left_eq_add, ↓reduceIte]
  refine r_aload_n (pc := 32) dX12_layFamily_32 rfl ?_
  refine r_iload (pc := 33) dX12_layFamily_33 rfl ?_
  refine r_iconst (pc := 35) dX12_layFamily_35 ?_
  refine r_iadd (pc := 36) dX12_layFamily_36 ?_
  refine r_iconst (pc := 37) dX12_layFamily_37 ?_
  refine r_iast (j := 10 + 4 * s) (pc := 38) dX12_layFamily_38 (by assumption) (by omega) (by omega) (by omega) (by omega) ?_
  try simp only [u2_I, uR_uR, uR_app, eq_self, Nat.reduceEqDiff, Nat.add_eq_left, Nat.left_eq_add, ↓reduceIte]
  refine r_aload_n (pc := 39) dX12_layFamily_39 rfl ?_
  refine r_bipush (pc := 40) dX12_layFamily_40 (by decide) ?_
  refine r_dup2 (pc := 42) dX12_layFamily_42 rfl rfl ?_
  refine r_iald (j := 6) (pc := 43) dX12_layFamily_43 (by assumption) rfl (by omega) (by omega) ?_
  try simp only [u2_I, uR_uR, uR_app, eq_self, Nat.reduceEqDiff, Nat.add_eq_left, Nat.left_eq_add, ↓reduceIte]
  rw [up_n _ _ (show 6 ≠ 10 + 4 * s by omega), up_n _ _ (show 6 ≠ 9 + 4 * s by omega), up_n _ _ (show 6 ≠ 8 + 4 * s by omega), up_n _ _ (show 6 ≠ 7 + 4 * s by omega)]
  refine r_iconst (pc := 44) dX12_layFamily_44 ?_
  refine r_iadd (pc := 45) dX12_layFamily_45 ?_
  refine r_iast (j := 6) (pc := 46) dX12_layFamily_46 (by assumption) (by omega) rfl (by omega) (by omega) ?_
  try simp only [u2_I, uR_uR, uR_app, eq_self, Nat.reduceEqDiff, Nat.add_eq_left, Nat.left_eq_add, ↓reduceIte]
  refine t_vret (pc := 47) dX12_layFamily_47 rfl ?_
  exact ⟨by rw [setlF_eq _ _ _ _ hs5], rfl, rfl⟩
def familyM (T : RS) (k mo y : Int) : Int × RS := if ((0 ≤ k ∧ k ≤ 4) ∧ (1 ≤ mo ∧ mo ≤ 20)) ∧ (0 ≤ y ∧ y ≤ 9) then (if T.1 6 < 6 then (T.1 6, zN T (setlF T.1 (sizeF T.1) k mo y)) else (-4, zF T)) else (-2, zB T)
theorem sX12_family {k mo y : Int} (hm : RfL G C P m := by assumption) (hF : FI (I (m + 1)) Y := by assumption) (hk : iR k := by omega) (hmo : iR mo := by omega) (hy : iR y := by omega) : SX12_family G [.ref m, .int (zI k), .int (zI mo), .int (zI y)] C I P L (NI C (QZ m (familyM (rdM m I L) k mo y).1 (familyM (rdM m I L) k mo y).2 P)) := by
  obtain ⟨hBm, hKm, hK1, hK2, hK3, hK4, hK5, hK6, hK7, hK8, hK9, hK10, hK11, hP0, hP1, hP2, hP3, hP6, hP7, hP8, hP9, hP10, hP16, hP17⟩ := id hm
  obtain ⟨hs6, hsz⟩ := sizeF_le hF
  have hsz' : I (m + 1) 6 = (sizeF (I (m + 1)) : Int) := hsz.symm
  have h6b := hF.2.2.2.2.2.2.1
  refine en_I (by decide +kernel) (Nat.le_of_ble_eq_true rfl) ?_
  change Wd _ _ _ _ _ _ _ _ 0 [some _, some _, some _, some _] [] _ _ _ _
  refine r_iload_n (pc := 0) dX12_family_0 rfl ?_
  refine r_i2l (pc := 1) dX12_family_1 (by first | omega | (split <;> decide)) ?_
  refine r_lconst (v := 0) (pc := 2) dX12_family_2 (by decide) ?_
  refine r_ldc2_w (v := (4 : Int)) (pc := 3) dX12_family_3 kcX12_72 ?_
  refine i_S3ix (pc := 6) okX12_in staX12_in q1098 dX12_family_6 (by decide) (Nat.le_of_ble_eq_true rfl) (sX12_in) ?_
  refine r_if_eq (pc := 9) 36 dX12_family_9 (by decide) (by first | omega | (split <;> decide)) (fun h9 => ?_) (fun h9 => ?_)
  · skip
    refine r_aload_n (pc := 36) dX12_family_36 rfl ?_
    refine r_bipush (pc := 37) dX12_family_37 (by decide) ?_
    refine i_V1ix (pc := 39) okX12_bad inX12_bad selX12_bad q1101 dX12_family_39 (by assumption) rfl (by decide) (Nat.le_of_ble_eq_true rfl) (sX12_bad) ?_
    refine t_iret (pc := 42) dX12_family_42 rfl rfl ?_
    unfold familyM
    rw [if_neg (fun hz => by first | exact (wf h9) hz.1.1 | exact (wf h21) hz.1.2 | exact (wf h33) hz.2)]
    exact QZ_bad
  · skip
    refine r_iload_n (pc := 12) dX12_family_12 rfl ?_
    refine r_i2l (pc := 13) dX12_family_13 (by first | omega | (split <;> decide)) ?_
    refine r_lconst (v := 1) (pc := 14) dX12_family_14 (by decide) ?_
    refine r_ldc2_w (v := (20 : Int)) (pc := 15) dX12_family_15 kcX12_74 ?_
    refine i_S3ix (pc := 18) okX12_in staX12_in q1098 dX12_family_18 (by decide) (Nat.le_of_ble_eq_true rfl) (sX12_in) ?_
    refine r_if_eq (pc := 21) 36 dX12_family_21 (by decide) (by first | omega | (split <;> decide)) (fun h21 => ?_) (fun h21 => ?_)
    · skip
      refine r_aload_n (pc := 36) dX12_family_36 rfl ?_
      refine r_bipush (pc := 37) dX12_family_37 (by decide) ?_
      refine i_V1ix (pc := 39) okX12_bad inX12_bad selX12_bad q1101 dX12_family_39 (by assumption) rfl (by decide) (Nat.le_of_ble_eq_true rfl) (sX12_bad) ?_
      refine t_iret (pc := 42) dX12_family_42 rfl rfl ?_
      unfold familyM
      rw [if_neg (fun hz => by first | exact (wf h9) hz.1.1 | exact (wf h21) hz.1.2 | exact (wf h33) hz.2)]
      exact QZ_bad
    · skip
      refine r_iload_n (pc := 24) dX12_family_24 rfl ?_
      refine r_i2l (pc := 25) dX12_family_25 (by first | omega | (split <;> decide)) ?_
      refine r_lconst (v := 0) (pc := 26) dX12_family_26 (by decide) ?_
      refine r_ldc2_w (v := (9 : Int)) (pc := 27) dX12_family_27 kcX12_76 ?_
      refine i_S3ix (pc := 30) okX12_in staX12_in q1098 dX12_family_30 (by decide) (Nat.le_of_ble_eq_true rfl) (sX12_in) ?_
      refine r_if_ne (pc := 33) 43 dX12_family_33 (by decide) (by first | omega | (split <;> decide)) (fun h33 => ?_) (fun h33 => ?_)
      · skip
        have h1 := wt h9
        have h2 := wt h21
        have h3 := wt h33
        refine r_aload_n (pc := 43) dX12_family_43 rfl ?_
        refine i_V0ix (pc := 44) okX12_families inX12_families selX12_families q1118 dX12_family_44 (by assumption) rfl (by decide) (Nat.le_of_ble_eq_true rfl) (sX12_families) ?_
        refine r_bipush (pc := 47) dX12_family_47 (by decide) ?_
        refine r_icmp_ne (pc := 49) 57 dX12_family_49 (by decide) (by first | omega | (split <;> decide)) (by first | omega | (split <;> decide)) (fun h49 => ?_) (fun h49 => ?_)
        · skip
          refine r_aload_n (pc := 57) dX12_family_57 rfl ?_
          refine r_getA (pc := 58) dX12_family_58 frX12_7 (by assumption) (by assumption) ?_
          refine r_iload_n (pc := 61) dX12_family_61 rfl ?_
          refine r_iload_n (pc := 62) dX12_family_62 rfl ?_
          refine r_iload_n (pc := 63) dX12_family_63 rfl ?_
          refine i_S4vx (pc := 64) okX12_layFamily staX12_layFamily q1126 dX12_family_64 (by decide) (Nat.le_of_ble_eq_true rfl) (sX12_layFamily (s := sizeF (I (m + 1)))) ?_
          try simp only [u2_I, uR_uR, uR_app, eq_self, Nat.reduceEqDiff, Nat.add_eq_left, Nat.left_eq_add, ↓reduceIte]
          refine r_aload_n (pc := 67) dX12_family_67 rfl ?_
          refine i_V0ix (pc := 68) okX12_families inX12_families selX12_families q1118 dX12_family_68 (by assumption) rfl (by decide) (Nat.le_of_ble_eq_true rfl) (sX12_families) ?_
          try simp only [u2_I, uR_uR, uR_app, eq_self, Nat.reduceEqDiff, Nat.add_eq_left, Nat.left_eq_add, ↓reduceIte]
          refine r_iconst (pc := 71) dX12_family_71 ?_
          refine r_isub (pc := 72) dX12_family_72 ?_
          refine t_iret (pc := 73) dX12_family_73 rfl rfl ?_
          unfold familyM
          rw [if_pos ⟨⟨h1, h2⟩, h3⟩, if_pos (show (rdM m I L).1 6 < 6 by show I (m + 1) 6 < 6; omega)]
          refine ⟨?_, rdM_N m I L _, rfl⟩
          show setlF (I (m + 1)) (sizeF (I (m + 1))) k mo y 6 - 1 = I (m + 1) 6
          unfold setlF
          rw [up_n _ _ (by omega), up_n _ _ (by omega), up_n _ _ (by omega), up_n _ _ (by omega), up_s]; omega
        · skip
          refine r_aload_n (pc := 52) dX12_family_52 rfl ?_
          refine i_V0ix (pc := 53) okX12_full inX12_full selX12_full q1122 dX12_family_53 (by assumption) rfl (by decide) (Nat.le_of_ble_eq_true rfl) (sX12_full) ?_
          refine t_iret (pc := 56) dX12_family_56 rfl rfl ?_
          unfold familyM
          rw [if_pos ⟨⟨h1, h2⟩, h3⟩, if_neg (by show ¬ I (m + 1) 6 < 6; omega)]
          exact QZ_full
      · skip
        refine r_aload_n (pc := 36) dX12_family_36 rfl ?_
        refine r_bipush (pc := 37) dX12_family_37 (by decide) ?_
        refine i_V1ix (pc := 39) okX12_bad inX12_bad selX12_bad q1101 dX12_family_39 (by assumption) rfl (by decide) (Nat.le_of_ble_eq_true rfl) (sX12_bad) ?_
        refine t_iret (pc := 42) dX12_family_42 rfl rfl ?_
        unfold familyM
        rw [if_neg (fun hz => by first | exact (wf h9) hz.1.1 | exact (wf h21) hz.1.2 | exact (wf h33) hz.2)]
        exact QZ_bad
def jobM (T : RS) (f j : Int) : Int × RS := if (0 ≤ f ∧ f ≤ T.1 6 - 1) ∧ (0 ≤ j ∧ j ≤ 4) then (T.1 (10 + 4 * f.toNat), zN T (up T.1 (10 + 4 * f.toNat) j)) else (-2, zB T)
theorem sX12_job {f j : Int} (hm : RfL G C P m := by assumption) (hF : FI (I (m + 1)) Y := by assumption) (hf : iR f := by omega) (hj : iR j := by omega) : SX12_job G [.ref m, .int (zI f), .int (zI j)] C I P L (NI C (QZ m (jobM (rdM m I L) f j).1 (jobM (rdM m I L) f j).2 P)) := by
  obtain ⟨hBm, hKm, hK1, hK2, hK3, hK4, hK5, hK6, hK7, hK8, hK9, hK10, hK11, hP0, hP1, hP2, hP3, hP6, hP7, hP8, hP9, hP10, hP16, hP17⟩ := id hm
  have h6b := hF.2.2.2.2.2.2.1
  refine en_I (by decide +kernel) (Nat.le_of_ble_eq_true rfl) ?_
  change Wd _ _ _ _ _ _ _ _ 0 [some _, some _, some _, none] [] _ _ _ _
  refine r_aload_n (pc := 0) dX12_job_0 rfl ?_
  refine r_iload_n (pc := 1) dX12_job_1 rfl ?_
  refine i_V1ix (pc := 2) okX12_isFamily inX12_isFamily selX12_isFamily q1133 dX12_job_2 (by assumption) rfl (by decide) (Nat.le_of_ble_eq_true rfl) (sX12_isFamily) ?_
  refine r_if_eq (pc := 5) 20 dX12_job_5 (by decide) (by first | omega | (split <;> decide)) (fun h5 => ?_) (fun h5 => ?_)
  · skip
    refine r_aload_n (pc := 20) dX12_job_20 rfl ?_
    refine r_bipush (pc := 21) dX12_job_21 (by decide) ?_
    refine i_V1ix (pc := 23) okX12_bad inX12_bad selX12_bad q1101 dX12_job_23 (by assumption) rfl (by decide) (Nat.le_of_ble_eq_true rfl) (sX12_bad) ?_
    refine t_iret (pc := 26) dX12_job_26 rfl rfl ?_
    unfold jobM
    rw [if_neg (fun hz => by first | exact (wf h5) hz.1 | exact (wf h17) hz.2)]
    exact QZ_bad
  · skip
    refine r_iload_n (pc := 8) dX12_job_8 rfl ?_
    refine r_i2l (pc := 9) dX12_job_9 (by first | omega | (split <;> decide)) ?_
    refine r_lconst (v := 0) (pc := 10) dX12_job_10 (by decide) ?_
    refine r_ldc2_w (v := (4 : Int)) (pc := 11) dX12_job_11 kcX12_72 ?_
    refine i_S3ix (pc := 14) okX12_in staX12_in q1098 dX12_job_14 (by decide) (Nat.le_of_ble_eq_true rfl) (sX12_in) ?_
    refine r_if_ne (pc := 17) 27 dX12_job_17 (by decide) (by first | omega | (split <;> decide)) (fun h17 => ?_) (fun h17 => ?_)
    · skip
      have h1 := wt h5
      have h2 := wt h17
      refine r_aload_n (pc := 27) dX12_job_27 rfl ?_
      refine r_iload_n (pc := 28) dX12_job_28 rfl ?_
      refine r_iconst (pc := 29) dX12_job_29 ?_
      refine i_V2ix (pc := 30) okX12_of inX12_of selX12_of q1137 dX12_job_30 (by assumption) rfl (by decide) (Nat.le_of_ble_eq_true rfl) (sX12_of (k := 10 + 4 * f.toNat) (by omega)) ?_
      refine r_istore_n (pc := 33) dX12_job_33 (by decide) ?_
      refine r_aload_n (pc := 34) dX12_job_34 rfl ?_
      refine r_getA (pc := 35) dX12_job_35 frX12_7 (by assumption) (by assumption) ?_
      refine r_bipush (pc := 38) dX12_job_38 (by decide) ?_
      refine r_iconst (pc := 40) dX12_job_40 ?_
      refine r_iload_n (pc := 41) dX12_job_41 rfl ?_
      refine r_imul (pc := 42) dX12_job_42 ?_
      refine r_iadd (pc := 43) dX12_job_43 ?_
      refine r_iconst (pc := 44) dX12_job_44 ?_
      refine r_iadd (pc := 45) dX12_job_45 ?_
      refine r_iload_n (pc := 46) dX12_job_46 rfl ?_
      refine r_iast (j := 10 + 4 * f.toNat) (pc := 47) dX12_job_47 (by assumption) (by first | omega | (split <;> decide)) (by omega) (by first | omega | (split <;> decide)) (by omega) ?_
      try simp only [u2_I, uR_uR, uR_app, eq_self, Nat.reduceEqDiff, Nat.add_eq_left, Nat.left_eq_add, ↓reduceIte]
      refine r_iload_n (pc := 48) dX12_job_48 rfl ?_
      refine t_iret (pc := 49) dX12_job_49 rfl rfl ?_
      unfold jobM
      rw [if_pos ⟨h1, h2⟩]
      exact ⟨rfl, rdM_N m I L _, rfl⟩
    · skip
      refine r_aload_n (pc := 20) dX12_job_20 rfl ?_
      refine r_bipush (pc := 21) dX12_job_21 (by decide) ?_
      refine i_V1ix (pc := 23) okX12_bad inX12_bad selX12_bad q1101 dX12_job_23 (by assumption) rfl (by decide) (Nat.le_of_ble_eq_true rfl) (sX12_bad) ?_
      refine t_iret (pc := 26) dX12_job_26 rfl rfl ?_
      unfold jobM
      rw [if_neg (fun hz => by first | exact (wf h5) hz.1 | exact (wf h17) hz.2)]
      exact QZ_bad
def aboutM (T : RS) (f w : Int) : Int × RS := if (0 ≤ f ∧ f ≤ T.1 6 - 1) ∧ (0 ≤ w ∧ w ≤ 3) then (T.1 (7 + 4 * f.toNat + w.toNat), T) else (-2, zB T)
theorem sX12_about {f w : Int} (hm : RfL G C P m := by assumption) (hF : FI (I (m + 1)) Y := by assumption) (hf : iR f := by omega) (hw : iR w := by omega) : SX12_about G [.ref m, .int (zI f), .int (zI w)] C I P L (NI C (QZ m (aboutM (rdM m I L) f w).1 (aboutM (rdM m I L) f w).2 P)) := by
  obtain ⟨hBm, hKm, hK1, hK2, hK3, hK4, hK5, hK6, hK7, hK8, hK9, hK10, hK11, hP0, hP1, hP2, hP3, hP6, hP7, hP8, hP9, hP10, hP16, hP17⟩ := id hm
  have h6b := hF.2.2.2.2.2.2.1
  refine en_I (by decide +kernel) (Nat.le_of_ble_eq_true rfl) ?_
  change Wd _ _ _ _ _ _ _ _ 0 [some _, some _, some _] [] _ _ _ _
  refine r_aload_n (pc := 0) dX12_about_0 rfl ?_
  refine r_iload_n (pc := 1) dX12_about_1 rfl ?_
  refine i_V1ix (pc := 2) okX12_isFamily inX12_isFamily selX12_isFamily q1133 dX12_about_2 (by assumption) rfl (by decide) (Nat.le_of_ble_eq_true rfl) (sX12_isFamily) ?_
  refine r_if_eq (pc := 5) 29 dX12_about_5 (by decide) (by first | omega | (split <;> decide)) (fun h5 => ?_) (fun h5 => ?_)
  · skip
    refine r_aload_n (pc := 29) dX12_about_29 rfl ?_
    refine r_bipush (pc := 30) dX12_about_30 (by decide) ?_
    refine i_V1ix (pc := 32) okX12_bad inX12_bad selX12_bad q1101 dX12_about_32 (by assumption) rfl (by decide) (Nat.le_of_ble_eq_true rfl) (sX12_bad) ?_
    refine t_iret (pc := 35) dX12_about_35 rfl rfl ?_
    unfold aboutM
    rw [if_neg (fun hz => by first | exact (wf h5) hz.1 | exact (wf h17) hz.2)]
    exact QZ_bad
  · skip
    refine r_iload_n (pc := 8) dX12_about_8 rfl ?_
    refine r_i2l (pc := 9) dX12_about_9 (by first | omega | (split <;> decide)) ?_
    refine r_lconst (v := 0) (pc := 10) dX12_about_10 (by decide) ?_
    refine r_ldc2_w (v := (3 : Int)) (pc := 11) dX12_about_11 kcX12_68 ?_
    refine i_S3ix (pc := 14) okX12_in staX12_in q1098 dX12_about_14 (by decide) (Nat.le_of_ble_eq_true rfl) (sX12_in) ?_
    refine r_if_eq (pc := 17) 29 dX12_about_17 (by decide) (by first | omega | (split <;> decide)) (fun h17 => ?_) (fun h17 => ?_)
    · skip
      refine r_aload_n (pc := 29) dX12_about_29 rfl ?_
      refine r_bipush (pc := 30) dX12_about_30 (by decide) ?_
      refine i_V1ix (pc := 32) okX12_bad inX12_bad selX12_bad q1101 dX12_about_32 (by assumption) rfl (by decide) (Nat.le_of_ble_eq_true rfl) (sX12_bad) ?_
      refine t_iret (pc := 35) dX12_about_35 rfl rfl ?_
      unfold aboutM
      rw [if_neg (fun hz => by first | exact (wf h5) hz.1 | exact (wf h17) hz.2)]
      exact QZ_bad
    · skip
      have h1 := wt h5
      have h2 := wt h17
      refine r_aload_n (pc := 20) dX12_about_20 rfl ?_
      refine r_iload_n (pc := 21) dX12_about_21 rfl ?_
      refine r_iload_n (pc := 22) dX12_about_22 rfl ?_
      refine i_V2ix (pc := 23) okX12_of inX12_of selX12_of q1137 dX12_about_23 (by assumption) rfl (by decide) (Nat.le_of_ble_eq_true rfl) (sX12_of (k := 7 + 4 * f.toNat + w.toNat) (by omega)) ?_
      refine r_goto (pc := 26) 35 dX12_about_26 (by decide) ?_
      refine t_iret (pc := 35) dX12_about_35 rfl rfl ?_
      unfold aboutM
      rw [if_pos ⟨h1, h2⟩]
      exact ⟨rfl, rfl, rfl⟩
def eatsM (T : RS) (f y : Int) : Int × RS := if (0 ≤ f ∧ f ≤ T.1 6 - 1) ∧ (0 ≤ y ∧ y ≤ 9999) then (mealK (T.1 (7 + 4 * f.toNat)) (T.1 (8 + 4 * f.toNat)) (noonF T.1 y), T) else (-2, zB T)
theorem sX12_eats {f y : Int} (hm : RfL G C P m := by assumption) (hF : FI (I (m + 1)) Y := by assumption) (hf : iR f := by omega) (hy : iR y := by omega) : SX12_eats G [.ref m, .int (zI f), .int (zI y)] C I P L (NI C (QZ m (eatsM (rdM m I L) f y).1 (eatsM (rdM m I L) f y).2 P)) := by
  obtain ⟨hBm, hKm, hK1, hK2, hK3, hK4, hK5, hK6, hK7, hK8, hK9, hK10, hK11, hP0, hP1, hP2, hP3, hP6, hP7, hP8, hP9, hP10, hP16, hP17⟩ := id hm
  have h6b := hF.2.2.2.2.2.2.1
  refine en_I (by decide +kernel) (Nat.le_of_ble_eq_true rfl) ?_
  change Wd _ _ _ _ _ _ _ _ 0 [some _, some _, some _] [] _ _ _ _
  refine r_aload_n (pc := 0) dX12_eats_0 rfl ?_
  refine r_iload_n (pc := 1) dX12_eats_1 rfl ?_
  refine i_V1ix (pc := 2) okX12_isFamily inX12_isFamily selX12_isFamily q1133 dX12_eats_2 (by assumption) rfl (by decide) (Nat.le_of_ble_eq_true rfl) (sX12_isFamily) ?_
  refine r_if_eq (pc := 5) 29 dX12_eats_5 (by decide) (by first | omega | (split <;> decide)) (fun h5 => ?_) (fun h5 => ?_)
  · skip
    refine r_aload_n (pc := 29) dX12_eats_29 rfl ?_
    refine r_bipush (pc := 30) dX12_eats_30 (by decide) ?_
    refine i_V1ix (pc := 32) okX12_bad inX12_bad selX12_bad q1101 dX12_eats_32 (by assumption) rfl (by decide) (Nat.le_of_ble_eq_true rfl) (sX12_bad) ?_
    refine t_iret (pc := 35) dX12_eats_35 rfl rfl ?_
    unfold eatsM
    rw [if_neg (fun hz => by first | exact (wf h5) hz.1 | exact (wf h17) hz.2)]
    exact QZ_bad
  · skip
    refine r_iload_n (pc := 8) dX12_eats_8 rfl ?_
    refine r_i2l (pc := 9) dX12_eats_9 (by first | omega | (split <;> decide)) ?_
    refine r_lconst (v := 0) (pc := 10) dX12_eats_10 (by decide) ?_
    refine r_ldc2_w (v := (9999 : Int)) (pc := 11) dX12_eats_11 kcX12_70 ?_
    refine i_S3ix (pc := 14) okX12_in staX12_in q1098 dX12_eats_14 (by decide) (Nat.le_of_ble_eq_true rfl) (sX12_in) ?_
    refine r_if_eq (pc := 17) 29 dX12_eats_17 (by decide) (by first | omega | (split <;> decide)) (fun h17 => ?_) (fun h17 => ?_)
    · skip
      refine r_aload_n (pc := 29) dX12_eats_29 rfl ?_
      refine r_bipush (pc := 30) dX12_eats_30 (by decide) ?_
      refine i_V1ix (pc := 32) okX12_bad inX12_bad selX12_bad q1101 dX12_eats_32 (by assumption) rfl (by decide) (Nat.le_of_ble_eq_true rfl) (sX12_bad) ?_
      refine t_iret (pc := 35) dX12_eats_35 rfl rfl ?_
      unfold eatsM
      rw [if_neg (fun hz => by first | exact (wf h5) hz.1 | exact (wf h17) hz.2)]
      exact QZ_bad
    · skip
      have h1 := wt h5
      have h2 := wt h17
      refine r_aload_n (pc := 20) dX12_eats_20 rfl ?_
      refine r_iload_n (pc := 21) dX12_eats_21 rfl ?_
      refine r_iload_n (pc := 22) dX12_eats_22 rfl ?_
      refine i_V2ix (pc := 23) okX12_eatsOf inX12_eatsOf selX12_eatsOf q1173 dX12_eats_23 (by assumption) rfl (by decide) (Nat.le_of_ble_eq_true rfl) (sX12_eatsOf (f := f.toNat) (Y := Y)) ?_
      refine r_goto (pc := 26) 35 dX12_eats_26 (by decide) ?_
      refine t_iret (pc := 35) dX12_eats_35 rfl rfl ?_
      unfold eatsM
      rw [if_pos ⟨h1, h2⟩]
      exact ⟨rfl, rfl, rfl⟩
theorem sX12_fields (hm : RfL G C P m := by assumption) (hF : FI (I (m + 1)) Y := by assumption) : SX12_fields G [.ref m] C I P L (NI C (QZ m (sownF (rdM m I L).1) (rdM m I L) P)) := by
  obtain ⟨hBm, hKm, hK1, hK2, hK3, hK4, hK5, hK6, hK7, hK8, hK9, hK10, hK11, hP0, hP1, hP2, hP3, hP6, hP7, hP8, hP9, hP10, hP16, hP17⟩ := id hm
  refine en_I (by decide +kernel) (Nat.le_of_ble_eq_true rfl) ?_
  change Wd _ _ _ _ _ _ _ _ 0 [some _] [] _ _ _ _
  refine r_aload_n (pc := 0) dX12_fields_0 rfl ?_
  refine i_V0ix (pc := 1) okX12_fieldsNow inX12_fieldsNow selX12_fieldsNow q1161 dX12_fields_1 (by assumption) rfl (by decide) (Nat.le_of_ble_eq_true rfl) (sX12_fieldsNow (Y := Y)) ?_
  refine t_iret (pc := 4) dX12_fields_4 rfl rfl ?_
  exact ⟨rfl, rfl, rfl⟩
def rateM (T : RS) (r : Int) : Int × RS := if 0 ≤ r ∧ r ≤ 50 then (T.1 58, zN T (up T.1 58 r)) else (-2, zB T)
theorem sX12_rate {r : Int} (hm : RfL G C P m := by assumption) (hr : iR r := by omega) : SX12_rate G [.ref m, .int (zI r)] C I P L (NI C (QZ m (rateM (rdM m I L) r).1 (rateM (rdM m I L) r).2 P)) := by
  obtain ⟨hBm, hKm, hK1, hK2, hK3, hK4, hK5, hK6, hK7, hK8, hK9, hK10, hK11, hP0, hP1, hP2, hP3, hP6, hP7, hP8, hP9, hP10, hP16, hP17⟩ := id hm
  refine en_I (by decide +kernel) (Nat.le_of_ble_eq_true rfl) ?_
  change Wd _ _ _ _ _ _ _ _ 0 [some _, some _, none] [] _ _ _ _
  refine r_iload_n (pc := 0) dX12_rate_0 rfl ?_
  refine r_i2l (pc := 1) dX12_rate_1 (by first | omega | (split <;> decide)) ?_
  refine r_lconst (v := 0) (pc := 2) dX12_rate_2 (by decide) ?_
  refine r_ldc2_w (v := (50 : Int)) (pc := 3) dX12_rate_3 kcX12_194 ?_
  refine i_S3ix (pc := 6) okX12_in staX12_in q1098 dX12_rate_6 (by decide) (Nat.le_of_ble_eq_true rfl) (sX12_in) ?_
  refine r_if_ne (pc := 9) 19 dX12_rate_9 (by decide) (by first | omega | (split <;> decide)) (fun h9 => ?_) (fun h9 => ?_)
  · skip
    refine r_aload_n (pc := 19) dX12_rate_19 rfl ?_
    refine r_getA (pc := 20) dX12_rate_20 frX12_7 (by assumption) (by assumption) ?_
    refine r_bipush (pc := 23) dX12_rate_23 (by decide) ?_
    refine r_iald (j := 58) (pc := 25) dX12_rate_25 (by assumption) rfl (by first | omega | (split <;> decide)) (by omega) ?_
    refine r_istore_n (pc := 26) dX12_rate_26 (by decide) ?_
    refine r_aload_n (pc := 27) dX12_rate_27 rfl ?_
    refine r_getA (pc := 28) dX12_rate_28 frX12_7 (by assumption) (by assumption) ?_
    refine r_bipush (pc := 31) dX12_rate_31 (by decide) ?_
    refine r_iload_n (pc := 33) dX12_rate_33 rfl ?_
    refine r_iast (j := 58) (pc := 34) dX12_rate_34 (by assumption) (by first | omega | (split <;> decide)) rfl (by first | omega | (split <;> decide)) (by omega) ?_
    try simp only [u2_I, uR_uR, uR_app, eq_self, Nat.reduceEqDiff, Nat.add_eq_left, Nat.left_eq_add, ↓reduceIte]
    refine r_iload_n (pc := 35) dX12_rate_35 rfl ?_
    refine t_iret (pc := 36) dX12_rate_36 rfl rfl ?_
    unfold rateM
    rw [if_pos (wt h9)]
    exact ⟨rfl, rdM_N m I L _, rfl⟩
  · skip
    refine r_aload_n (pc := 12) dX12_rate_12 rfl ?_
    refine r_bipush (pc := 13) dX12_rate_13 (by decide) ?_
    refine i_V1ix (pc := 15) okX12_bad inX12_bad selX12_bad q1101 dX12_rate_15 (by assumption) rfl (by decide) (Nat.le_of_ble_eq_true rfl) (sX12_bad) ?_
    refine t_iret (pc := 18) dX12_rate_18 rfl rfl ?_
    unfold rateM
    rw [if_neg (wf h9)]
    exact QZ_bad
theorem sX12_layDebt {a n : Nat} {d : Nat} {x y z : Int} (hK : C.1 a = some (.inr (0, n)) := by assumption) (hB : gB G ≤ a := by omega) (hn : 116 ≤ n ∧ n ≤ 236 := by omega) (hR : I a = R := by first | exact uR_s _ _ _ | rfl) (hd : R 33 = (d : Int) := by assumption) (hd7 : d ≤ 7 := by omega) : SX12_layDebt G [.ref a, .int (zI x), .int (zI y), .int (zI z)] C I P L (NV C (XV (uR I a (debtB R d x y z)) P L)) := by
  subst hR
  refine en_V (by decide +kernel) (Nat.le_of_ble_eq_true rfl) ?_
  change Wd _ _ _ _ _ _ _ _ 0 [some _, some _, some _, some _, none] [] _ _ _ _
  refine r_bipush (pc := 0) dX12_layDebt_0 (by decide) ?_
  refine r_iconst (pc := 2) dX12_layDebt_2 ?_
  refine r_aload_n (pc := 3) dX12_layDebt_3 rfl ?_
  refine r_bipush (pc := 4) dX12_layDebt_4 (by decide) ?_
  refine r_iald (j := 33) (pc := 6) dX12_layDebt_6 (by assumption) rfl (by omega) (by omega) ?_
  refine r_imul (pc := 7) dX12_layDebt_7 ?_
  refine r_iadd (pc := 8) dX12_layDebt_8 ?_
  refine r_istore (pc := 9) dX12_layDebt_9 (by decide) ?_
  refine r_aload_n (pc := 11) dX12_layDebt_11 rfl ?_
  refine r_iload (pc := 12) dX12_layDebt_12 rfl ?_
  refine r_iload_n (pc := 14) dX12_layDebt_14 rfl ?_
  refine r_iast (j := 34 + 3 * d) (pc := 15) dX12_layDebt_15 (by assumption) (by omega) (by omega) (by omega) (by omega) ?_
  try simp only [u2_I, uR_uR, uR_app, eq_self, Nat.reduceEqDiff, Nat.add_eq_left, Nat.left_eq_add, ↓reduceIte]
  refine r_aload_n (pc := 16) dX12_layDebt_16 rfl ?_
  refine r_iload (pc := 17) dX12_layDebt_17 rfl ?_
  refine r_iconst (pc := 19) dX12_layDebt_19 ?_
  refine r_iadd (pc := 20) dX12_layDebt_20 ?_
  refine r_iload_n (pc := 21) dX12_layDebt_21 rfl ?_
  refine r_iast (j := 35 + 3 * d) (pc := 22) dX12_layDebt_22 (by assumption) (by omega) (by omega) (by omega) (by omega) ?_
  try simp only [u2_I, uR_uR, uR_app, eq_self, Nat.reduceEqDiff, Nat.add_eq_left, Nat.left_eq_add, ↓reduceIte]
  refine r_aload_n (pc := 23) dX12_layDebt_23 rfl ?_
  refine r_iload (pc := 24) dX12_layDebt_24 rfl ?_
  refine r_iconst (pc := 26) dX12_layDebt_26 ?_
  refine r_iadd (pc := 27) dX12_layDebt_27 ?_
  refine r_iload_n (pc := 28) dX12_layDebt_28 rfl ?_
  refine r_iast (j := 36 + 3 * d) (pc := 29) dX12_layDebt_29 (by assumption) (by omega) (by omega) (by omega) (by omega) ?_
  try simp only [u2_I, uR_uR, uR_app, eq_self, Nat.reduceEqDiff, Nat.add_eq_left, Nat.left_eq_add, ↓reduceIte]
  refine r_aload_n (pc := 30) dX12_layDebt_30 rfl ?_
  refine r_bipush (pc := 31) dX12_layDebt_31 (by decide) ?_
  refine r_dup2 (pc := 33) dX12_layDebt_33 rfl rfl ?_
  refine r_iald (j := 33) (pc := 34) dX12_layDebt_34 (by assumption) rfl (by omega) (by omega) ?_
  try simp only [u2_I, uR_uR, uR_app, eq_self, Nat.reduceEqDiff, Nat.add_eq_left, Nat.left_eq_add, ↓reduceIte]
  rw [up_n _ _ (show 33 ≠ 36 + 3 * d by omega), up_n _ _ (show 33 ≠ 35 + 3 * d by omega), up_n _ _ (show 33 ≠ 34 + 3 * d by omega)]
  refine r_iconst (pc := 35) dX12_layDebt_35 ?_
  refine r_iadd (pc := 36) dX12_layDebt_36 ?_
  refine r_iast (j := 33) (pc := 37) dX12_layDebt_37 (by assumption) (by omega) rfl (by omega) (by omega) ?_
  try simp only [u2_I, uR_uR, uR_app, eq_self, Nat.reduceEqDiff, Nat.add_eq_left, Nat.left_eq_add, ↓reduceIte]
  refine t_vret (pc := 38) dX12_layDebt_38 rfl ?_
  exact ⟨by unfold debtB; rw [hd], rfl, rfl⟩
def debtM (T : RS) (f t n : Int) : Int × RS := if ((0 ≤ f ∧ f ≤ T.1 6 - 1) ∧ (0 ≤ t ∧ t ≤ T.1 6 - 1) ∧ f ≠ t) ∧ (1 ≤ n ∧ n ≤ 999) then (if T.1 33 < 8 then (T.1 33, zN T (debtB T.1 (T.1 33).toNat f t n)) else (-4, zF T)) else (-2, zB T)
theorem sX12_debt {f t n : Int} (hm : RfL G C P m := by assumption) (hF : FI (I (m + 1)) Y := by assumption) (hBI : BI (I (m + 1)) := by assumption) (hf : iR f := by omega) (ht : iR t := by omega) (hn : iR n := by omega) : SX12_debt G [.ref m, .int (zI f), .int (zI t), .int (zI n)] C I P L (NI C (QZ m (debtM (rdM m I L) f t n).1 (debtM (rdM m I L) f t n).2 P)) := by
  obtain ⟨hBm, hKm, hK1, hK2, hK3, hK4, hK5, hK6, hK7, hK8, hK9, hK10, hK11, hP0, hP1, hP2, hP3, hP6, hP7, hP8, hP9, hP10, hP16, hP17⟩ := id hm
  have h6b := hF.2.2.2.2.2.2.1
  have b1 := hBI.2.1
  have hd33 : I (m + 1) 33 = ((I (m + 1) 33).toNat : Int) := by omega
  refine en_I (by decide +kernel) (Nat.le_of_ble_eq_true rfl) ?_
  change Wd _ _ _ _ _ _ _ _ 0 [some _, some _, some _, some _] [] _ _ _ _
  refine r_aload_n (pc := 0) dX12_debt_0 rfl ?_
  refine r_iload_n (pc := 1) dX12_debt_1 rfl ?_
  refine i_V1ix (pc := 2) okX12_isFamily inX12_isFamily selX12_isFamily q1133 dX12_debt_2 (by assumption) rfl (by decide) (Nat.le_of_ble_eq_true rfl) (sX12_isFamily) ?_
  refine r_if_eq (pc := 5) 33 dX12_debt_5 (by decide) (by first | omega | (split <;> decide)) (fun h5 => ?_) (fun h5 => ?_)
  · skip
    refine r_aload_n (pc := 33) dX12_debt_33 rfl ?_
    refine r_bipush (pc := 34) dX12_debt_34 (by decide) ?_
    refine i_V1ix (pc := 36) okX12_bad inX12_bad selX12_bad q1101 dX12_debt_36 (by assumption) rfl (by decide) (Nat.le_of_ble_eq_true rfl) (sX12_bad) ?_
    refine t_iret (pc := 39) dX12_debt_39 rfl rfl ?_
    unfold debtM
    rw [if_neg (fun hz => by first | exact (wf h5) hz.1.1 | exact (wf h13) hz.1.2.1 | exact hz.1.2.2 h18 | exact (wf h30) hz.2)]
    exact QZ_bad
  · skip
    refine r_aload_n (pc := 8) dX12_debt_8 rfl ?_
    refine r_iload_n (pc := 9) dX12_debt_9 rfl ?_
    refine i_V1ix (pc := 10) okX12_isFamily inX12_isFamily selX12_isFamily q1133 dX12_debt_10 (by assumption) rfl (by decide) (Nat.le_of_ble_eq_true rfl) (sX12_isFamily) ?_
    refine r_if_eq (pc := 13) 33 dX12_debt_13 (by decide) (by first | omega | (split <;> decide)) (fun h13 => ?_) (fun h13 => ?_)
    · skip
      refine r_aload_n (pc := 33) dX12_debt_33 rfl ?_
      refine r_bipush (pc := 34) dX12_debt_34 (by decide) ?_
      refine i_V1ix (pc := 36) okX12_bad inX12_bad selX12_bad q1101 dX12_debt_36 (by assumption) rfl (by decide) (Nat.le_of_ble_eq_true rfl) (sX12_bad) ?_
      refine t_iret (pc := 39) dX12_debt_39 rfl rfl ?_
      unfold debtM
      rw [if_neg (fun hz => by first | exact (wf h5) hz.1.1 | exact (wf h13) hz.1.2.1 | exact hz.1.2.2 h18 | exact (wf h30) hz.2)]
      exact QZ_bad
    · skip
      refine r_iload_n (pc := 16) dX12_debt_16 rfl ?_
      refine r_iload_n (pc := 17) dX12_debt_17 rfl ?_
      refine r_icmp_eq (pc := 18) 33 dX12_debt_18 (by decide) (by first | omega | (split <;> decide)) (by first | omega | (split <;> decide)) (fun h18 => ?_) (fun h18 => ?_)
      · skip
        refine r_aload_n (pc := 33) dX12_debt_33 rfl ?_
        refine r_bipush (pc := 34) dX12_debt_34 (by decide) ?_
        refine i_V1ix (pc := 36) okX12_bad inX12_bad selX12_bad q1101 dX12_debt_36 (by assumption) rfl (by decide) (Nat.le_of_ble_eq_true rfl) (sX12_bad) ?_
        refine t_iret (pc := 39) dX12_debt_39 rfl rfl ?_
        unfold debtM
        rw [if_neg (fun hz => by first | exact (wf h5) hz.1.1 | exact (wf h13) hz.1.2.1 | exact hz.1.2.2 h18 | exact (wf h30) hz.2)]
        exact QZ_bad
      · skip
        refine r_iload_n (pc := 21) dX12_debt_21 rfl ?_
        refine r_i2l (pc := 22) dX12_debt_22 (by first | omega | (split <;> decide)) ?_
        refine r_lconst (v := 1) (pc := 23) dX12_debt_23 (by decide) ?_
        refine r_ldc2_w (v := (999 : Int)) (pc := 24) dX12_debt_24 kcX12_189 ?_
        refine i_S3ix (pc := 27) okX12_in staX12_in q1098 dX12_debt_27 (by decide) (Nat.le_of_ble_eq_true rfl) (sX12_in) ?_
        refine r_if_ne (pc := 30) 40 dX12_debt_30 (by decide) (by first | omega | (split <;> decide)) (fun h30 => ?_) (fun h30 => ?_)
        · skip
          have h1 := wt h5
          have h2 := wt h13
          have h3 := wt h30
          refine r_aload_n (pc := 40) dX12_debt_40 rfl ?_
          refine r_getA (pc := 41) dX12_debt_41 frX12_7 (by assumption) (by assumption) ?_
          refine r_bipush (pc := 44) dX12_debt_44 (by decide) ?_
          refine r_iald (j := 33) (pc := 46) dX12_debt_46 (by assumption) rfl (by first | omega | (split <;> decide)) (by omega) ?_
          refine r_bipush (pc := 47) dX12_debt_47 (by decide) ?_
          refine r_icmp_ne (pc := 49) 57 dX12_debt_49 (by decide) (by first | omega | (split <;> decide)) (by first | omega | (split <;> decide)) (fun h49 => ?_) (fun h49 => ?_)
          · skip
            refine r_aload_n (pc := 57) dX12_debt_57 rfl ?_
            refine r_getA (pc := 58) dX12_debt_58 frX12_7 (by assumption) (by assumption) ?_
            refine r_iload_n (pc := 61) dX12_debt_61 rfl ?_
            refine r_iload_n (pc := 62) dX12_debt_62 rfl ?_
            refine r_iload_n (pc := 63) dX12_debt_63 rfl ?_
            refine i_S4vx (pc := 64) okX12_layDebt staX12_layDebt q1289 dX12_debt_64 (by decide) (Nat.le_of_ble_eq_true rfl) (sX12_layDebt (d := (I (m + 1) 33).toNat)) ?_
            try simp only [u2_I, uR_uR, uR_app, eq_self, Nat.reduceEqDiff, Nat.add_eq_left, Nat.left_eq_add, ↓reduceIte]
            refine r_aload_n (pc := 67) dX12_debt_67 rfl ?_
            refine r_getA (pc := 68) dX12_debt_68 frX12_7 (by assumption) (by assumption) ?_
            refine r_bipush (pc := 71) dX12_debt_71 (by decide) ?_
            refine r_iald (j := 33) (pc := 73) dX12_debt_73 (by assumption) rfl (by first | omega | (split <;> decide)) (by omega) ?_
            try simp only [u2_I, uR_uR, uR_app, eq_self, Nat.reduceEqDiff, Nat.add_eq_left, Nat.left_eq_add, ↓reduceIte]
            refine r_iconst (pc := 74) dX12_debt_74 ?_
            refine r_isub (pc := 75) dX12_debt_75 ?_
            refine t_iret (pc := 76) dX12_debt_76 rfl rfl ?_
            unfold debtM
            rw [if_pos ⟨⟨h1, h2, h18⟩, h3⟩, if_pos (show (rdM m I L).1 33 < 8 by show I (m + 1) 33 < 8; omega)]
            refine ⟨?_, rdM_N m I L _, rfl⟩
            show debtB (I (m + 1)) (I (m + 1) 33).toNat f t n 33 - 1 = I (m + 1) 33
            unfold debtB
            rw [up_s]; omega
          · skip
            refine r_aload_n (pc := 52) dX12_debt_52 rfl ?_
            refine i_V0ix (pc := 53) okX12_full inX12_full selX12_full q1122 dX12_debt_53 (by assumption) rfl (by decide) (Nat.le_of_ble_eq_true rfl) (sX12_full) ?_
            refine t_iret (pc := 56) dX12_debt_56 rfl rfl ?_
            unfold debtM
            rw [if_pos ⟨⟨h1, h2, h18⟩, h3⟩, if_neg (by show ¬ I (m + 1) 33 < 8; omega)]
            exact QZ_full
        · skip
          refine r_aload_n (pc := 33) dX12_debt_33 rfl ?_
          refine r_bipush (pc := 34) dX12_debt_34 (by decide) ?_
          refine i_V1ix (pc := 36) okX12_bad inX12_bad selX12_bad q1101 dX12_debt_36 (by assumption) rfl (by decide) (Nat.le_of_ble_eq_true rfl) (sX12_bad) ?_
          refine t_iret (pc := 39) dX12_debt_39 rfl rfl ?_
          unfold debtM
          rw [if_neg (fun hz => by first | exact (wf h5) hz.1.1 | exact (wf h13) hz.1.2.1 | exact hz.1.2.2 h18 | exact (wf h30) hz.2)]
          exact QZ_bad
theorem bal_st (B : Nat → Int) (w f : Int) (d : Nat) : balB B w f (d + 1) = balB B w f d + (if B (35 + 3 * d) = f then dueB B w d else 0) - (if B (34 + 3 * d) = f then dueB B w d else 0) := rfl
theorem due_st (B : Nat → Int) (w : Int) (d : Nat) : dueB B w d = B (36 + 3 * d) + B (36 + 3 * d) * B 58 * w / 100 := rfl
theorem sX12_netOf {f : Int} (hm : RfL G C P m := by assumption) (hF : FI (I (m + 1)) Y := by assumption) (hY : Y ≤ 1000000 := by omega) (hBI : BI (I (m + 1)) := by assumption) (hf : iR f := by omega) : SX12_netOf G [.ref m, .int (zI f)] C I P L (NI C (XI (balB (I (m + 1)) (awayF (I (m + 1))) f (I (m + 1) 33).toNat) I P L)) := by
  obtain ⟨hBm, hKm, hK1, hK2, hK3, hK4, hK5, hK6, hK7, hK8, hK9, hK10, hK11, hP0, hP1, hP2, hP3, hP6, hP7, hP8, hP9, hP10, hP16, hP17⟩ := id hm
  have h0 := hF.1
  have h1 := hF.2.1
  have b1 := hBI.2.1
  have b0 := hBI.1
  have hm1 := Int.emod_nonneg (I (m + 1) 1) (show I (m + 1) 0 ≠ 0 by omega)
  have hm2 := Int.emod_lt_of_pos (I (m + 1) 1) (show 0 < I (m + 1) 0 by omega)
  have ea : awayF (I (m + 1)) = I (m + 1) 0 - 1 - I (m + 1) 1 % I (m + 1) 0 := rfl
  have haw : 0 ≤ awayF (I (m + 1)) ∧ awayF (I (m + 1)) ≤ 69 := by omega
  have hbal := balB_in hBI haw f
  refine en_I (by decide +kernel) (Nat.le_of_ble_eq_true rfl) ?_
  change Wd _ _ _ _ _ _ _ _ 0 [some _, some _, none, none, none, none, none] [] _ _ _ _
  have loop : ∀ (d o : Nat) (i a : Int) (w5 w6 : Option Value), o + d = (I (m + 1) 33).toNat → i = (o : Int) → a = balB (I (m + 1)) (awayF (I (m + 1))) f o → Wd G yX12_netOf cX12_netOf 7 (some .int) 0 (C.2.1 + 0, C.2.2 + 0) (NI C (XI (balB (I (m + 1)) (awayF (I (m + 1))) f (I (m + 1) 33).toNat) I P L)) 28 [some (.ref m), some (.int (zI f)), some (.int (zI (awayF (I (m + 1))))), some (.int (zI a)), some (.int (zI i)), w5, w6] [] C I P L := by
    intro d
    induction d using Nat.strongRecOn with
    | _ d ih =>
      intro o i a w5 w6 hd hi ha
      by_cases hlt : o < (I (m + 1) 33).toNat
      · obtain ⟨c1, c2, c3⟩ := hBI.2.2.2.2.1 o (by omega)
        have hmul := mul3_in c3 b0 haw
        have hdue := due_st (I (m + 1)) (awayF (I (m + 1))) o
        have hbst := bal_st (I (m + 1)) (awayF (I (m + 1))) f o
        rw [← ha, hdue] at hbst
        generalize hpr : I (m + 1) (36 + 3 * o) * I (m + 1) 58 * awayF (I (m + 1)) = pr at hmul hdue hbst
        refine r_iload (pc := 28) dX12_netOf_28 rfl ?_
        refine r_aload_n (pc := 30) dX12_netOf_30 rfl ?_
        refine r_getA (pc := 31) dX12_netOf_31 frX12_7 (by assumption) (by assumption) ?_
        refine r_bipush (pc := 34) dX12_netOf_34 (by decide) ?_
        refine r_iald (j := 33) (pc := 36) dX12_netOf_36 (by assumption) rfl (by omega) (by omega) ?_
        refine r_icmp_ge (pc := 37) 129 dX12_netOf_37 (by decide) (by omega) (by omega) (fun h37 => ?_) (fun h37 => ?_)
        · exfalso; omega
        · skip
          refine r_bipush (pc := 40) dX12_netOf_40 (by decide) ?_
          refine r_iconst (pc := 42) dX12_netOf_42 ?_
          refine r_iload (pc := 43) dX12_netOf_43 rfl ?_
          refine r_imul (pc := 45) dX12_netOf_45 ?_
          refine r_iadd (pc := 46) dX12_netOf_46 ?_
          refine r_istore (pc := 47) dX12_netOf_47 (by decide) ?_
          refine r_aload_n (pc := 49) dX12_netOf_49 rfl ?_
          refine r_getA (pc := 50) dX12_netOf_50 frX12_7 (by assumption) (by assumption) ?_
          refine r_iload (pc := 53) dX12_netOf_53 rfl ?_
          refine r_iconst (pc := 55) dX12_netOf_55 ?_
          refine r_iadd (pc := 56) dX12_netOf_56 ?_
          refine r_iald (j := 36 + 3 * o) (pc := 57) dX12_netOf_57 (by assumption) (by omega) (by omega) (by omega) ?_
          refine r_aload_n (pc := 58) dX12_netOf_58 rfl ?_
          refine r_getA (pc := 59) dX12_netOf_59 frX12_7 (by assumption) (by assumption) ?_
          refine r_iload (pc := 62) dX12_netOf_62 rfl ?_
          refine r_iconst (pc := 64) dX12_netOf_64 ?_
          refine r_iadd (pc := 65) dX12_netOf_65 ?_
          refine r_iald (j := 36 + 3 * o) (pc := 66) dX12_netOf_66 (by assumption) (by omega) (by omega) (by omega) ?_
          refine r_aload_n (pc := 67) dX12_netOf_67 rfl ?_
          refine r_getA (pc := 68) dX12_netOf_68 frX12_7 (by assumption) (by assumption) ?_
          refine r_bipush (pc := 71) dX12_netOf_71 (by decide) ?_
          refine r_iald (j := 58) (pc := 73) dX12_netOf_73 (by assumption) rfl (by omega) (by omega) ?_
          refine r_imul (pc := 74) dX12_netOf_74 ?_
          refine r_iload_n (pc := 75) dX12_netOf_75 rfl ?_
          refine r_imul (pc := 76) dX12_netOf_76 ?_
          rw [hpr]
          refine r_bipush (pc := 77) dX12_netOf_77 (by decide) ?_
          refine r_idiv (pc := 79) dX12_netOf_79 (by omega) (by omega) (by omega) (by omega) ?_
          refine r_iadd (pc := 80) dX12_netOf_80 ?_
          refine r_istore (pc := 81) dX12_netOf_81 (by decide) ?_
          refine r_iload_n (pc := 83) dX12_netOf_83 rfl ?_
          refine r_aload_n (pc := 84) dX12_netOf_84 rfl ?_
          refine r_getA (pc := 85) dX12_netOf_85 frX12_7 (by assumption) (by assumption) ?_
          refine r_iload (pc := 88) dX12_netOf_88 rfl ?_
          refine r_iconst (pc := 90) dX12_netOf_90 ?_
          refine r_iadd (pc := 91) dX12_netOf_91 ?_
          refine r_iald (j := 35 + 3 * o) (pc := 92) dX12_netOf_92 (by assumption) (by omega) (by omega) (by omega) ?_
          refine r_iload_n (pc := 93) dX12_netOf_93 rfl ?_
          refine r_icmp_ne (pc := 94) 102 dX12_netOf_94 (by decide) (by omega) (by omega) (fun h94 => ?_) (fun h94 => ?_)
          · skip
            refine r_iconst (pc := 102) dX12_netOf_102 ?_
            refine r_aload_n (pc := 103) dX12_netOf_103 rfl ?_
            refine r_getA (pc := 104) dX12_netOf_104 frX12_7 (by assumption) (by assumption) ?_
            refine r_iload (pc := 107) dX12_netOf_107 rfl ?_
            refine r_iald (j := 34 + 3 * o) (pc := 109) dX12_netOf_109 (by assumption) (by omega) (by omega) (by omega) ?_
            refine r_iload_n (pc := 110) dX12_netOf_110 rfl ?_
            refine r_icmp_ne (pc := 111) 119 dX12_netOf_111 (by decide) (by omega) (by omega) (fun h111 => ?_) (fun h111 => ?_)
            · skip
              refine r_iconst (pc := 119) dX12_netOf_119 ?_
              refine r_isub (pc := 120) dX12_netOf_120 ?_
              refine r_iadd (pc := 121) dX12_netOf_121 ?_
              refine r_istore_n (pc := 122) dX12_netOf_122 (by decide) ?_
              refine r_iinc (pc := 123) dX12_netOf_123 rfl ?_
              refine r_goto (pc := 126) 28 dX12_netOf_126 (by decide) ?_
              refine ih (d - 1) (by omega) (o + 1) _ _ _ _ (by omega) (by omega) ?_
              rw [hbst, if_neg h94]
              first | rw [if_pos h111]; omega | rw [if_neg h111]; omega
            · skip
              refine r_iload (pc := 114) dX12_netOf_114 rfl ?_
              refine r_goto (pc := 116) 120 dX12_netOf_116 (by decide) ?_
              refine r_isub (pc := 120) dX12_netOf_120 ?_
              refine r_iadd (pc := 121) dX12_netOf_121 ?_
              refine r_istore_n (pc := 122) dX12_netOf_122 (by decide) ?_
              refine r_iinc (pc := 123) dX12_netOf_123 rfl ?_
              refine r_goto (pc := 126) 28 dX12_netOf_126 (by decide) ?_
              refine ih (d - 1) (by omega) (o + 1) _ _ _ _ (by omega) (by omega) ?_
              rw [hbst, if_neg h94]
              first | rw [if_pos h111]; omega | rw [if_neg h111]; omega
          · skip
            refine r_iload (pc := 97) dX12_netOf_97 rfl ?_
            refine r_goto (pc := 99) 103 dX12_netOf_99 (by decide) ?_
            refine r_aload_n (pc := 103) dX12_netOf_103 rfl ?_
            refine r_getA (pc := 104) dX12_netOf_104 frX12_7 (by assumption) (by assumption) ?_
            refine r_iload (pc := 107) dX12_netOf_107 rfl ?_
            refine r_iald (j := 34 + 3 * o) (pc := 109) dX12_netOf_109 (by assumption) (by omega) (by omega) (by omega) ?_
            refine r_iload_n (pc := 110) dX12_netOf_110 rfl ?_
            refine r_icmp_ne (pc := 111) 119 dX12_netOf_111 (by decide) (by omega) (by omega) (fun h111 => ?_) (fun h111 => ?_)
            · skip
              refine r_iconst (pc := 119) dX12_netOf_119 ?_
              refine r_isub (pc := 120) dX12_netOf_120 ?_
              refine r_iadd (pc := 121) dX12_netOf_121 ?_
              refine r_istore_n (pc := 122) dX12_netOf_122 (by decide) ?_
              refine r_iinc (pc := 123) dX12_netOf_123 rfl ?_
              refine r_goto (pc := 126) 28 dX12_netOf_126 (by decide) ?_
              refine ih (d - 1) (by omega) (o + 1) _ _ _ _ (by omega) (by omega) ?_
              rw [hbst, if_pos h94]
              first | rw [if_pos h111]; omega | rw [if_neg h111]; omega
            · skip
              refine r_iload (pc := 114) dX12_netOf_114 rfl ?_
              refine r_goto (pc := 116) 120 dX12_netOf_116 (by decide) ?_
              refine r_isub (pc := 120) dX12_netOf_120 ?_
              refine r_iadd (pc := 121) dX12_netOf_121 ?_
              refine r_istore_n (pc := 122) dX12_netOf_122 (by decide) ?_
              refine r_iinc (pc := 123) dX12_netOf_123 rfl ?_
              refine r_goto (pc := 126) 28 dX12_netOf_126 (by decide) ?_
              refine ih (d - 1) (by omega) (o + 1) _ _ _ _ (by omega) (by omega) ?_
              rw [hbst, if_pos h94]
              first | rw [if_pos h111]; omega | rw [if_neg h111]; omega
      · skip
        refine r_iload (pc := 28) dX12_netOf_28 rfl ?_
        refine r_aload_n (pc := 30) dX12_netOf_30 rfl ?_
        refine r_getA (pc := 31) dX12_netOf_31 frX12_7 (by assumption) (by assumption) ?_
        refine r_bipush (pc := 34) dX12_netOf_34 (by decide) ?_
        refine r_iald (j := 33) (pc := 36) dX12_netOf_36 (by assumption) rfl (by omega) (by omega) ?_
        refine r_icmp_ge (pc := 37) 129 dX12_netOf_37 (by decide) (by omega) (by omega) (fun h37 => ?_) (fun h37 => ?_)
        · skip
          refine r_iload_n (pc := 129) dX12_netOf_129 rfl ?_
          refine t_iret (pc := 130) dX12_netOf_130 rfl rfl ?_
          exact ⟨by rw [ha, show (I (m + 1) 33).toNat = o by omega], rfl, rfl, rfl⟩
        · exfalso; omega
  refine r_aload_n (pc := 0) dX12_netOf_0 rfl ?_
  refine r_getA (pc := 1) dX12_netOf_1 frX12_7 (by assumption) (by assumption) ?_
  refine r_iconst (pc := 4) dX12_netOf_4 ?_
  refine r_iald (j := 0) (pc := 5) dX12_netOf_5 (by assumption) rfl (by omega) (by omega) ?_
  refine r_iconst (pc := 6) dX12_netOf_6 ?_
  refine r_isub (pc := 7) dX12_netOf_7 ?_
  refine r_aload_n (pc := 8) dX12_netOf_8 rfl ?_
  refine r_getA (pc := 9) dX12_netOf_9 frX12_7 (by assumption) (by assumption) ?_
  refine r_iconst (pc := 12) dX12_netOf_12 ?_
  refine r_iald (j := 1) (pc := 13) dX12_netOf_13 (by assumption) rfl (by omega) (by omega) ?_
  refine r_aload_n (pc := 14) dX12_netOf_14 rfl ?_
  refine r_getA (pc := 15) dX12_netOf_15 frX12_7 (by assumption) (by assumption) ?_
  refine r_iconst (pc := 18) dX12_netOf_18 ?_
  refine r_iald (j := 0) (pc := 19) dX12_netOf_19 (by assumption) rfl (by omega) (by omega) ?_
  refine r_irem (pc := 20) dX12_netOf_20 (by omega) (by omega) (by omega) (by omega) ?_
  refine r_isub (pc := 21) dX12_netOf_21 ?_
  rw [← ea]
  refine r_istore_n (pc := 22) dX12_netOf_22 (by decide) ?_
  refine r_iconst (pc := 23) dX12_netOf_23 ?_
  refine r_istore_n (pc := 24) dX12_netOf_24 (by decide) ?_
  refine r_iconst (pc := 25) dX12_netOf_25 ?_
  refine r_istore (pc := 26) dX12_netOf_26 (by decide) ?_
  exact loop (I (m + 1) 33).toNat 0 _ _ _ _ (by omega) rfl rfl
def netM (T : RS) (f : Int) : Int × RS := if 0 ≤ f ∧ f ≤ T.1 6 - 1 then (balB T.1 (awayF T.1) f (T.1 33).toNat, T) else (-100000, zB T)
theorem sX12_net {f : Int} (hm : RfL G C P m := by assumption) (hF : FI (I (m + 1)) Y := by assumption) (hY : Y ≤ 1000000 := by omega) (hBI : BI (I (m + 1)) := by assumption) (hf : iR f := by omega) : SX12_net G [.ref m, .int (zI f)] C I P L (NI C (QZ m (netM (rdM m I L) f).1 (netM (rdM m I L) f).2 P)) := by
  obtain ⟨hBm, hKm, hK1, hK2, hK3, hK4, hK5, hK6, hK7, hK8, hK9, hK10, hK11, hP0, hP1, hP2, hP3, hP6, hP7, hP8, hP9, hP10, hP16, hP17⟩ := id hm
  have h6b := hF.2.2.2.2.2.2.1
  refine en_I (by decide +kernel) (Nat.le_of_ble_eq_true rfl) ?_
  change Wd _ _ _ _ _ _ _ _ 0 [some _, some _] [] _ _ _ _
  refine r_aload_n (pc := 0) dX12_net_0 rfl ?_
  refine r_iload_n (pc := 1) dX12_net_1 rfl ?_
  refine i_V1ix (pc := 2) okX12_isFamily inX12_isFamily selX12_isFamily q1133 dX12_net_2 (by assumption) rfl (by decide) (Nat.le_of_ble_eq_true rfl) (sX12_isFamily) ?_
  refine r_if_eq (pc := 5) 16 dX12_net_5 (by decide) (by first | omega | (split <;> decide)) (fun h5 => ?_) (fun h5 => ?_)
  · skip
    refine r_aload_n (pc := 16) dX12_net_16 rfl ?_
    refine r_ldc (v := (-100000 : Int)) (pc := 17) dX12_net_17 kcX12_199 ?_
    refine i_V1ix (pc := 19) okX12_bad inX12_bad selX12_bad q1101 dX12_net_19 (by assumption) rfl (by decide) (Nat.le_of_ble_eq_true rfl) (sX12_bad) ?_
    refine t_iret (pc := 22) dX12_net_22 rfl rfl ?_
    unfold netM
    rw [rdM_1, if_neg (wf h5)]
    exact QZ_bad
  · skip
    refine r_aload_n (pc := 8) dX12_net_8 rfl ?_
    refine r_iload_n (pc := 9) dX12_net_9 rfl ?_
    refine i_V1ix (pc := 10) okX12_netOf inX12_netOf selX12_netOf q1301 dX12_net_10 (by assumption) rfl (by decide) (Nat.le_of_ble_eq_true rfl) (sX12_netOf (Y := Y)) ?_
    refine r_goto (pc := 13) 22 dX12_net_13 (by decide) ?_
    refine t_iret (pc := 22) dX12_net_22 rfl rfl ?_
    unfold netM
    rw [rdM_1, if_pos (wt h5)]
    exact ⟨rfl, rfl, rfl⟩
def repoM (T : RS) (y f n : Int) : Int × RS := if ((0 ≤ y ∧ y ≤ 99) ∧ (0 ≤ f ∧ f ≤ T.1 6 - 1)) ∧ (0 ≤ n ∧ n ≤ 9999) then (if T.1 59 < 10 then (T.1 59, zN T (repoB T.1 (T.1 59).toNat y f n)) else (-4, zF T)) else (-2, zB T)
theorem sX12_report {y f n : Int} (hm : RfL G C P m := by assumption) (hF : FI (I (m + 1)) Y := by assumption) (hBI : BI (I (m + 1)) := by assumption) (hy : iR y := by omega) (hf : iR f := by omega) (hn : iR n := by omega) : SX12_report G [.ref m, .int (zI y), .int (zI f), .int (zI n)] C I P L (NI C (QZ m (repoM (rdM m I L) y f n).1 (repoM (rdM m I L) y f n).2 P)) := by
  obtain ⟨hBm, hKm, hK1, hK2, hK3, hK4, hK5, hK6, hK7, hK8, hK9, hK10, hK11, hP0, hP1, hP2, hP3, hP6, hP7, hP8, hP9, hP10, hP16, hP17⟩ := id hm
  have h6b := hF.2.2.2.2.2.2.1
  have b1 := hBI.2.2.1
  obtain ⟨q, hq⟩ : ∃ q : Nat, I (m + 1) 59 = (q : Int) := ⟨(I (m + 1) 59).toNat, by omega⟩
  refine en_I (by decide +kernel) (Nat.le_of_ble_eq_true rfl) ?_
  change Wd _ _ _ _ _ _ _ _ 0 [some _, some _, some _, some _, none] [] _ _ _ _
  refine r_iload_n (pc := 0) dX12_report_0 rfl ?_
  refine r_i2l (pc := 1) dX12_report_1 (by first | omega | (split <;> decide)) ?_
  refine r_lconst (v := 0) (pc := 2) dX12_report_2 (by decide) ?_
  refine r_ldc2_w (v := (99 : Int)) (pc := 3) dX12_report_3 kcX12_204 ?_
  refine i_S3ix (pc := 6) okX12_in staX12_in q1098 dX12_report_6 (by decide) (Nat.le_of_ble_eq_true rfl) (sX12_in) ?_
  refine r_if_eq (pc := 9) 32 dX12_report_9 (by decide) (by first | omega | (split <;> decide)) (fun h9 => ?_) (fun h9 => ?_)
  · skip
    refine r_aload_n (pc := 32) dX12_report_32 rfl ?_
    refine r_bipush (pc := 33) dX12_report_33 (by decide) ?_
    refine i_V1ix (pc := 35) okX12_bad inX12_bad selX12_bad q1101 dX12_report_35 (by assumption) rfl (by decide) (Nat.le_of_ble_eq_true rfl) (sX12_bad) ?_
    refine t_iret (pc := 38) dX12_report_38 rfl rfl ?_
    unfold repoM
    rw [if_neg (fun hz => by first | exact (wf h9) hz.1.1 | exact (wf h17) hz.1.2 | exact (wf h29) hz.2)]
    exact QZ_bad
  · skip
    refine r_aload_n (pc := 12) dX12_report_12 rfl ?_
    refine r_iload_n (pc := 13) dX12_report_13 rfl ?_
    refine i_V1ix (pc := 14) okX12_isFamily inX12_isFamily selX12_isFamily q1133 dX12_report_14 (by assumption) rfl (by decide) (Nat.le_of_ble_eq_true rfl) (sX12_isFamily) ?_
    refine r_if_eq (pc := 17) 32 dX12_report_17 (by decide) (by first | omega | (split <;> decide)) (fun h17 => ?_) (fun h17 => ?_)
    · skip
      refine r_aload_n (pc := 32) dX12_report_32 rfl ?_
      refine r_bipush (pc := 33) dX12_report_33 (by decide) ?_
      refine i_V1ix (pc := 35) okX12_bad inX12_bad selX12_bad q1101 dX12_report_35 (by assumption) rfl (by decide) (Nat.le_of_ble_eq_true rfl) (sX12_bad) ?_
      refine t_iret (pc := 38) dX12_report_38 rfl rfl ?_
      unfold repoM
      rw [if_neg (fun hz => by first | exact (wf h9) hz.1.1 | exact (wf h17) hz.1.2 | exact (wf h29) hz.2)]
      exact QZ_bad
    · skip
      refine r_iload_n (pc := 20) dX12_report_20 rfl ?_
      refine r_i2l (pc := 21) dX12_report_21 (by first | omega | (split <;> decide)) ?_
      refine r_lconst (v := 0) (pc := 22) dX12_report_22 (by decide) ?_
      refine r_ldc2_w (v := (9999 : Int)) (pc := 23) dX12_report_23 kcX12_70 ?_
      refine i_S3ix (pc := 26) okX12_in staX12_in q1098 dX12_report_26 (by decide) (Nat.le_of_ble_eq_true rfl) (sX12_in) ?_
      refine r_if_ne (pc := 29) 39 dX12_report_29 (by decide) (by first | omega | (split <;> decide)) (fun h29 => ?_) (fun h29 => ?_)
      · skip
        have h1 := wt h9
        have h2 := wt h17
        have h3 := wt h29
        refine r_aload_n (pc := 39) dX12_report_39 rfl ?_
        refine r_getA (pc := 40) dX12_report_40 frX12_7 (by assumption) (by assumption) ?_
        refine r_bipush (pc := 43) dX12_report_43 (by decide) ?_
        refine r_iald (j := 59) (pc := 45) dX12_report_45 (by assumption) rfl (by first | omega | (split <;> decide)) (by omega) ?_
        refine r_bipush (pc := 46) dX12_report_46 (by decide) ?_
        refine r_icmp_ne (pc := 48) 56 dX12_report_48 (by decide) (by first | omega | (split <;> decide)) (by first | omega | (split <;> decide)) (fun h48 => ?_) (fun h48 => ?_)
        · skip
          refine r_bipush (pc := 56) dX12_report_56 (by decide) ?_
          refine r_iconst (pc := 58) dX12_report_58 ?_
          refine r_aload_n (pc := 59) dX12_report_59 rfl ?_
          refine r_getA (pc := 60) dX12_report_60 frX12_7 (by assumption) (by assumption) ?_
          refine r_bipush (pc := 63) dX12_report_63 (by decide) ?_
          refine r_iald (j := 59) (pc := 65) dX12_report_65 (by assumption) rfl (by first | omega | (split <;> decide)) (by omega) ?_
          refine r_imul (pc := 66) dX12_report_66 ?_
          refine r_iadd (pc := 67) dX12_report_67 ?_
          refine r_istore (pc := 68) dX12_report_68 (by decide) ?_
          refine r_aload_n (pc := 70) dX12_report_70 rfl ?_
          refine r_getA (pc := 71) dX12_report_71 frX12_7 (by assumption) (by assumption) ?_
          refine r_iload (pc := 74) dX12_report_74 rfl ?_
          refine r_iload_n (pc := 76) dX12_report_76 rfl ?_
          refine r_iast (j := 60 + 3 * q) (pc := 77) dX12_report_77 (by assumption) (by first | omega | (split <;> decide)) (by omega) (by first | omega | (split <;> decide)) (by omega) ?_
          try simp only [u2_I, uR_uR, uR_app, eq_self, Nat.reduceEqDiff, Nat.add_eq_left, Nat.left_eq_add, ↓reduceIte]
          refine r_aload_n (pc := 78) dX12_report_78 rfl ?_
          refine r_getA (pc := 79) dX12_report_79 frX12_7 (by assumption) (by assumption) ?_
          refine r_iload (pc := 82) dX12_report_82 rfl ?_
          refine r_iconst (pc := 84) dX12_report_84 ?_
          refine r_iadd (pc := 85) dX12_report_85 ?_
          refine r_iload_n (pc := 86) dX12_report_86 rfl ?_
          refine r_iast (j := 61 + 3 * q) (pc := 87) dX12_report_87 (by assumption) (by first | omega | (split <;> decide)) (by omega) (by first | omega | (split <;> decide)) (by omega) ?_
          try simp only [u2_I, uR_uR, uR_app, eq_self, Nat.reduceEqDiff, Nat.add_eq_left, Nat.left_eq_add, ↓reduceIte]
          refine r_aload_n (pc := 88) dX12_report_88 rfl ?_
          refine r_getA (pc := 89) dX12_report_89 frX12_7 (by assumption) (by assumption) ?_
          refine r_iload (pc := 92) dX12_report_92 rfl ?_
          refine r_iconst (pc := 94) dX12_report_94 ?_
          refine r_iadd (pc := 95) dX12_report_95 ?_
          refine r_iload_n (pc := 96) dX12_report_96 rfl ?_
          refine r_iast (j := 62 + 3 * q) (pc := 97) dX12_report_97 (by assumption) (by first | omega | (split <;> decide)) (by omega) (by first | omega | (split <;> decide)) (by omega) ?_
          try simp only [u2_I, uR_uR, uR_app, eq_self, Nat.reduceEqDiff, Nat.add_eq_left, Nat.left_eq_add, ↓reduceIte]
          refine r_aload_n (pc := 98) dX12_report_98 rfl ?_
          refine r_getA (pc := 99) dX12_report_99 frX12_7 (by assumption) (by assumption) ?_
          refine r_bipush (pc := 102) dX12_report_102 (by decide) ?_
          refine r_dup2 (pc := 104) dX12_report_104 rfl rfl ?_
          refine r_iald (j := 59) (pc := 105) dX12_report_105 (by assumption) rfl (by first | omega | (split <;> decide)) (by omega) ?_
          try simp only [u2_I, uR_uR, uR_app, eq_self, Nat.reduceEqDiff, Nat.add_eq_left, Nat.left_eq_add, ↓reduceIte]
          rw [up_n _ _ (show 59 ≠ 62 + 3 * q by omega), up_n _ _ (show 59 ≠ 61 + 3 * q by omega), up_n _ _ (show 59 ≠ 60 + 3 * q by omega)]
          refine r_iconst (pc := 106) dX12_report_106 ?_
          refine r_iadd (pc := 107) dX12_report_107 ?_
          refine r_iast (j := 59) (pc := 108) dX12_report_108 (by assumption) (by first | omega | (split <;> decide)) rfl (by first | omega | (split <;> decide)) (by omega) ?_
          try simp only [u2_I, uR_uR, uR_app, eq_self, Nat.reduceEqDiff, Nat.add_eq_left, Nat.left_eq_add, ↓reduceIte]
          refine r_aload_n (pc := 109) dX12_report_109 rfl ?_
          refine r_getA (pc := 110) dX12_report_110 frX12_7 (by assumption) (by assumption) ?_
          refine r_bipush (pc := 113) dX12_report_113 (by decide) ?_
          refine r_iald (j := 59) (pc := 115) dX12_report_115 (by assumption) rfl (by first | omega | (split <;> decide)) (by omega) ?_
          try simp only [u2_I, uR_uR, uR_app, eq_self, Nat.reduceEqDiff, Nat.add_eq_left, Nat.left_eq_add, ↓reduceIte]
          refine r_iconst (pc := 116) dX12_report_116 ?_
          refine r_isub (pc := 117) dX12_report_117 ?_
          refine t_iret (pc := 118) dX12_report_118 rfl rfl ?_
          unfold repoM
          rw [if_pos ⟨⟨h1, h2⟩, h3⟩, if_pos (show (rdM m I L).1 59 < 10 by show I (m + 1) 59 < 10; omega)]
          refine ⟨?_, ?_, rfl⟩
          · rw [up_s]; show _ = I (m + 1) 59; omega
          · rw [rdM_N]
            show zN (rdM m I L) _ = zN (rdM m I L) (repoB (I (m + 1)) (I (m + 1) 59).toNat y f n)
            rw [hq, Int.toNat_natCast]; rfl
        · skip
          refine r_aload_n (pc := 51) dX12_report_51 rfl ?_
          refine i_V0ix (pc := 52) okX12_full inX12_full selX12_full q1122 dX12_report_52 (by assumption) rfl (by decide) (Nat.le_of_ble_eq_true rfl) (sX12_full) ?_
          refine t_iret (pc := 55) dX12_report_55 rfl rfl ?_
          unfold repoM
          rw [if_pos ⟨⟨h1, h2⟩, h3⟩, if_neg (by show ¬ I (m + 1) 59 < 10; omega)]
          exact QZ_full
      · skip
        refine r_aload_n (pc := 32) dX12_report_32 rfl ?_
        refine r_bipush (pc := 33) dX12_report_33 (by decide) ?_
        refine i_V1ix (pc := 35) okX12_bad inX12_bad selX12_bad q1101 dX12_report_35 (by assumption) rfl (by decide) (Nat.le_of_ble_eq_true rfl) (sX12_bad) ?_
        refine t_iret (pc := 38) dX12_report_38 rfl rfl ?_
        unfold repoM
        rw [if_neg (fun hz => by first | exact (wf h9) hz.1.1 | exact (wf h17) hz.1.2 | exact (wf h29) hz.2)]
        exact QZ_bad
def noneM (T : RS) (x : Int) : Int × RS := if 0 ≤ x ∧ x ≤ 2 then ((if x = 0 then T.1 33 else if x = 1 then T.1 59 else T.1 90), zN T (striB T.1 x)) else (-2, zB T)
theorem sX12_none {x : Int} (hm : RfL G C P m := by assumption) (hx : iR x := by omega) : SX12_none G [.ref m, .int (zI x)] C I P L (NI C (QZ m (noneM (rdM m I L) x).1 (noneM (rdM m I L) x).2 P)) := by
  obtain ⟨hBm, hKm, hK1, hK2, hK3, hK4, hK5, hK6, hK7, hK8, hK9, hK10, hK11, hP0, hP1, hP2, hP3, hP6, hP7, hP8, hP9, hP10, hP16, hP17⟩ := id hm
  refine en_I (by decide +kernel) (Nat.le_of_ble_eq_true rfl) ?_
  change Wd _ _ _ _ _ _ _ _ 0 [some _, some _, none, none] [] _ _ _ _
  refine r_iload_n (pc := 0) dX12_none_0 rfl ?_
  refine r_i2l (pc := 1) dX12_none_1 (by first | omega | (split <;> decide)) ?_
  refine r_lconst (v := 0) (pc := 2) dX12_none_2 (by decide) ?_
  refine r_ldc2_w (v := (2 : Int)) (pc := 3) dX12_none_3 kcX12_60 ?_
  refine i_S3ix (pc := 6) okX12_in staX12_in q1098 dX12_none_6 (by decide) (Nat.le_of_ble_eq_true rfl) (sX12_in) ?_
  refine r_if_ne (pc := 9) 19 dX12_none_9 (by decide) (by first | omega | (split <;> decide)) (fun h9 => ?_) (fun h9 => ?_)
  · skip
    refine r_iload_n (pc := 19) dX12_none_19 rfl ?_
    refine r_if_ne (pc := 20) 28 dX12_none_20 (by decide) (by first | omega | (split <;> decide)) (fun h20 => ?_) (fun h20 => ?_)
    · skip
      refine r_iload_n (pc := 28) dX12_none_28 rfl ?_
      refine r_iconst (pc := 29) dX12_none_29 ?_
      refine r_icmp_ne (pc := 30) 38 dX12_none_30 (by decide) (by first | omega | (split <;> decide)) (by first | omega | (split <;> decide)) (fun h30 => ?_) (fun h30 => ?_)
      · skip
        refine r_bipush (pc := 38) dX12_none_38 (by decide) ?_
        refine r_istore_n (pc := 40) dX12_none_40 (by decide) ?_
        refine r_aload_n (pc := 41) dX12_none_41 rfl ?_
        refine r_getA (pc := 42) dX12_none_42 frX12_7 (by assumption) (by assumption) ?_
        refine r_iload_n (pc := 45) dX12_none_45 rfl ?_
        refine r_iald (j := 90) (pc := 46) dX12_none_46 (by assumption) rfl (by first | omega | (split <;> decide)) (by omega) ?_
        refine r_istore_n (pc := 47) dX12_none_47 (by decide) ?_
        refine r_aload_n (pc := 48) dX12_none_48 rfl ?_
        refine r_getA (pc := 49) dX12_none_49 frX12_7 (by assumption) (by assumption) ?_
        refine r_iload_n (pc := 52) dX12_none_52 rfl ?_
        refine r_iconst (pc := 53) dX12_none_53 ?_
        refine r_iast (j := 90) (pc := 54) dX12_none_54 (by assumption) (by first | omega | (split <;> decide)) rfl (by first | omega | (split <;> decide)) (by omega) ?_
        try simp only [u2_I, uR_uR, uR_app, eq_self, Nat.reduceEqDiff, Nat.add_eq_left, Nat.left_eq_add, ↓reduceIte]
        refine r_iload_n (pc := 55) dX12_none_55 rfl ?_
        refine t_iret (pc := 56) dX12_none_56 rfl rfl ?_
        have h1 := wt h9
        unfold noneM
        rw [if_pos h1, if_neg (by omega), if_neg (by omega)]
        exact ⟨rfl, by rw [rdM_N]; unfold striB; rw [if_neg (by omega), if_neg (by omega), if_pos (by omega)]; rfl, rfl⟩
      · skip
        refine r_bipush (pc := 33) dX12_none_33 (by decide) ?_
        refine r_goto (pc := 35) 40 dX12_none_35 (by decide) ?_
        refine r_istore_n (pc := 40) dX12_none_40 (by decide) ?_
        refine r_aload_n (pc := 41) dX12_none_41 rfl ?_
        refine r_getA (pc := 42) dX12_none_42 frX12_7 (by assumption) (by assumption) ?_
        refine r_iload_n (pc := 45) dX12_none_45 rfl ?_
        refine r_iald (j := 59) (pc := 46) dX12_none_46 (by assumption) rfl (by first | omega | (split <;> decide)) (by omega) ?_
        refine r_istore_n (pc := 47) dX12_none_47 (by decide) ?_
        refine r_aload_n (pc := 48) dX12_none_48 rfl ?_
        refine r_getA (pc := 49) dX12_none_49 frX12_7 (by assumption) (by assumption) ?_
        refine r_iload_n (pc := 52) dX12_none_52 rfl ?_
        refine r_iconst (pc := 53) dX12_none_53 ?_
        refine r_iast (j := 59) (pc := 54) dX12_none_54 (by assumption) (by first | omega | (split <;> decide)) rfl (by first | omega | (split <;> decide)) (by omega) ?_
        try simp only [u2_I, uR_uR, uR_app, eq_self, Nat.reduceEqDiff, Nat.add_eq_left, Nat.left_eq_add, ↓reduceIte]
        refine r_iload_n (pc := 55) dX12_none_55 rfl ?_
        refine t_iret (pc := 56) dX12_none_56 rfl rfl ?_
        unfold noneM
        rw [if_pos (wt h9), if_neg (by omega), if_pos (by omega)]
        exact ⟨rfl, by rw [rdM_N]; unfold striB; rw [if_neg (by omega), if_pos (by omega)]; rfl, rfl⟩
    · skip
      refine r_bipush (pc := 23) dX12_none_23 (by decide) ?_
      refine r_goto (pc := 25) 40 dX12_none_25 (by decide) ?_
      refine r_istore_n (pc := 40) dX12_none_40 (by decide) ?_
      refine r_aload_n (pc := 41) dX12_none_41 rfl ?_
      refine r_getA (pc := 42) dX12_none_42 frX12_7 (by assumption) (by assumption) ?_
      refine r_iload_n (pc := 45) dX12_none_45 rfl ?_
      refine r_iald (j := 33) (pc := 46) dX12_none_46 (by assumption) rfl (by first | omega | (split <;> decide)) (by omega) ?_
      refine r_istore_n (pc := 47) dX12_none_47 (by decide) ?_
      refine r_aload_n (pc := 48) dX12_none_48 rfl ?_
      refine r_getA (pc := 49) dX12_none_49 frX12_7 (by assumption) (by assumption) ?_
      refine r_iload_n (pc := 52) dX12_none_52 rfl ?_
      refine r_iconst (pc := 53) dX12_none_53 ?_
      refine r_iast (j := 33) (pc := 54) dX12_none_54 (by assumption) (by first | omega | (split <;> decide)) rfl (by first | omega | (split <;> decide)) (by omega) ?_
      try simp only [u2_I, uR_uR, uR_app, eq_self, Nat.reduceEqDiff, Nat.add_eq_left, Nat.left_eq_add, ↓reduceIte]
      refine r_iload_n (pc := 55) dX12_none_55 rfl ?_
      refine t_iret (pc := 56) dX12_none_56 rfl rfl ?_
      unfold noneM
      rw [if_pos (wt h9), if_pos (by omega)]
      exact ⟨rfl, by rw [rdM_N]; unfold striB; rw [if_pos (by omega)]; rfl, rfl⟩
  · skip
    refine r_aload_n (pc := 12) dX12_none_12 rfl ?_
    refine r_bipush (pc := 13) dX12_none_13 (by decide) ?_
    refine i_V1ix (pc := 15) okX12_bad inX12_bad selX12_bad q1101 dX12_none_15 (by assumption) rfl (by decide) (Nat.le_of_ble_eq_true rfl) (sX12_bad) ?_
    refine t_iret (pc := 18) dX12_none_18 rfl rfl ?_
    unfold noneM
    rw [if_neg (wf h9)]
    exact QZ_bad
def typeM (T : RS) (c : Int) : Int × RS := if 0 ≤ c ∧ c ≤ 127 then (if T.2.2.2.2.2.1 < 150 then (T.2.2.2.2.2.1 + 1, (T.1, T.2.1, T.2.2.1, T.2.2.2.1, up T.2.2.2.2.1 T.2.2.2.2.2.1.toNat c, T.2.2.2.2.2.1 + 1, T.2.2.2.2.2.2)) else (-4, zF T)) else (-2, zB T)
theorem sX12_type {c : Int} {n : Nat} (hm : RfL G C P m := by assumption) (hn : I m 11 = (n : Int) := by assumption) (h150 : n ≤ 150 := by omega) (hc : iR c := by omega) : SX12_type G [.ref m, .int (zI c)] C I P L (NI C (QZ m (typeM (rdM m I L) c).1 (typeM (rdM m I L) c).2 P)) := by
  obtain ⟨hBm, hKm, hK1, hK2, hK3, hK4, hK5, hK6, hK7, hK8, hK9, hK10, hK11, hP0, hP1, hP2, hP3, hP6, hP7, hP8, hP9, hP10, hP16, hP17⟩ := id hm
  have eS : (rdM m I L).2.2.2.2.2.1 = (n : Int) := hn
  refine en_I (by decide +kernel) (Nat.le_of_ble_eq_true rfl) ?_
  change Wd _ _ _ _ _ _ _ _ 0 [some _, some _] [] _ _ _ _
  refine r_iload_n (pc := 0) dX12_type_0 rfl ?_
  refine r_i2l (pc := 1) dX12_type_1 (by first | omega | (split <;> decide)) ?_
  refine r_lconst (v := 0) (pc := 2) dX12_type_2 (by decide) ?_
  refine r_ldc2_w (v := (127 : Int)) (pc := 3) dX12_type_3 kcX12_237 ?_
  refine i_S3ix (pc := 6) okX12_in staX12_in q1098 dX12_type_6 (by decide) (Nat.le_of_ble_eq_true rfl) (sX12_in) ?_
  refine r_if_ne (pc := 9) 19 dX12_type_9 (by decide) (by first | omega | (split <;> decide)) (fun h9 => ?_) (fun h9 => ?_)
  · skip
    refine r_aload_n (pc := 19) dX12_type_19 rfl ?_
    refine r_getI (pc := 20) dX12_type_20 frX12_239 (by assumption) ?_
    refine r_sipush (pc := 23) dX12_type_23 (by decide) ?_
    refine r_icmp_ne (pc := 26) 34 dX12_type_26 (by decide) (by first | omega | (split <;> decide)) (by first | omega | (split <;> decide)) (fun h26 => ?_) (fun h26 => ?_)
    · skip
      refine r_aload_n (pc := 34) dX12_type_34 rfl ?_
      refine r_getA (pc := 35) dX12_type_35 frX12_39 (by assumption) (by assumption) ?_
      refine r_aload_n (pc := 38) dX12_type_38 rfl ?_
      refine r_getI (pc := 39) dX12_type_39 frX12_239 (by assumption) ?_
      refine r_iload_n (pc := 42) dX12_type_42 rfl ?_
      refine r_iast (j := n) (pc := 43) dX12_type_43 (by assumption) (by first | omega | (split <;> decide)) (by omega) (by first | omega | (split <;> decide)) (by omega) ?_
      try simp only [u2_I, uR_uR, uR_app, eq_self, Nat.reduceEqDiff, Nat.add_eq_left, Nat.left_eq_add, ↓reduceIte]
      refine r_aload_n (pc := 44) dX12_type_44 rfl ?_
      refine r_dup (pc := 45) dX12_type_45 rfl ?_
      refine r_getI (pc := 46) dX12_type_46 frX12_239 (by assumption) ?_
      try simp only [u2_I, uR_uR, uR_app, eq_self, Nat.reduceEqDiff, Nat.add_eq_left, Nat.left_eq_add, ↓reduceIte]
      refine r_iconst (pc := 49) dX12_type_49 ?_
      refine r_iadd (pc := 50) dX12_type_50 ?_
      refine r_putI (pc := 51) dX12_type_51 fwX12_239 (by assumption) (by first | omega | (split <;> decide)) ?_
      try simp only [u2_I, uR_uR, uR_app, eq_self, Nat.reduceEqDiff, Nat.add_eq_left, Nat.left_eq_add, ↓reduceIte]
      refine r_aload_n (pc := 54) dX12_type_54 rfl ?_
      refine r_getI (pc := 55) dX12_type_55 frX12_239 (by assumption) ?_
      try simp only [u2_I, uR_uR, uR_app, eq_self, Nat.reduceEqDiff, Nat.add_eq_left, Nat.left_eq_add, ↓reduceIte]
      refine t_iret (pc := 58) dX12_type_58 rfl rfl ?_
      unfold typeM
      rw [if_pos (wt h9), if_pos (by rw [eS]; omega), eS, Int.toNat_natCast]
      refine ⟨?_, ?_, rfl⟩
      · rw [up_s]; omega
      · unfold rdM
        simp only [uR_app, Nat.reduceEqDiff, Nat.add_eq_left, Nat.left_eq_add, ↓reduceIte, up_app, hn]
    · skip
      refine r_aload_n (pc := 29) dX12_type_29 rfl ?_
      refine i_V0ix (pc := 30) okX12_full inX12_full selX12_full q1122 dX12_type_30 (by assumption) rfl (by decide) (Nat.le_of_ble_eq_true rfl) (sX12_full) ?_
      refine t_iret (pc := 33) dX12_type_33 rfl rfl ?_
      unfold typeM
      rw [if_pos (wt h9), if_neg (by rw [eS]; omega)]
      exact QZ_full
  · skip
    refine r_aload_n (pc := 12) dX12_type_12 rfl ?_
    refine r_bipush (pc := 13) dX12_type_13 (by decide) ?_
    refine i_V1ix (pc := 15) okX12_bad inX12_bad selX12_bad q1101 dX12_type_15 (by assumption) rfl (by decide) (Nat.le_of_ble_eq_true rfl) (sX12_bad) ?_
    refine t_iret (pc := 18) dX12_type_18 rfl rfl ?_
    unfold typeM
    rw [if_neg (wf h9)]
    exact QZ_bad
theorem sX12_clear (hm : RfL G C P m := by assumption) : SX12_clear G [.ref m] C I P L (NI C (QZ m (rdM m I L).2.2.2.2.2.1 ((rdM m I L).1, (rdM m I L).2.1, (rdM m I L).2.2.1, (rdM m I L).2.2.2.1, (rdM m I L).2.2.2.2.1, 0, (rdM m I L).2.2.2.2.2.2) P)) := by
  obtain ⟨hBm, hKm, hK1, hK2, hK3, hK4, hK5, hK6, hK7, hK8, hK9, hK10, hK11, hP0, hP1, hP2, hP3, hP6, hP7, hP8, hP9, hP10, hP16, hP17⟩ := id hm
  refine en_I (by decide +kernel) (Nat.le_of_ble_eq_true rfl) ?_
  change Wd _ _ _ _ _ _ _ _ 0 [some _, none] [] _ _ _ _
  refine r_aload_n (pc := 0) dX12_clear_0 rfl ?_
  refine r_getI (pc := 1) dX12_clear_1 frX12_239 (by assumption) ?_
  refine r_istore_n (pc := 4) dX12_clear_4 (by decide) ?_
  refine r_aload_n (pc := 5) dX12_clear_5 rfl ?_
  refine r_iconst (pc := 6) dX12_clear_6 ?_
  refine r_putI (pc := 7) dX12_clear_7 fwX12_239 (by assumption) (by omega) ?_
  try simp only [u2_I, uR_uR, uR_app, eq_self, Nat.reduceEqDiff, Nat.add_eq_left, Nat.left_eq_add, ↓reduceIte]
  refine r_iload_n (pc := 10) dX12_clear_10 rfl ?_
  refine t_iret (pc := 11) dX12_clear_11 rfl rfl ?_
  refine ⟨rfl, ?_, rfl⟩
  unfold rdM
  simp only [uR_app, Nat.reduceEqDiff, Nat.add_eq_left, Nat.left_eq_add, ↓reduceIte, up_app]
def partM (T : RS) (w : Int) : Int × RS := if 0 ≤ w ∧ w ≤ 1 then (if w = 0 then T.2.2.2.2.2.2.1 else T.2.2.2.2.2.2.2, T) else (-2, zB T)
theorem sX12_part {w : Int} (hm : RfL G C P m := by assumption) (hw : iR w := by omega) : SX12_part G [.ref m, .int (zI w)] C I P L (NL C (QZ m (partM (rdM m I L) w).1 (partM (rdM m I L) w).2 P)) := by
  obtain ⟨hBm, hKm, hK1, hK2, hK3, hK4, hK5, hK6, hK7, hK8, hK9, hK10, hK11, hP0, hP1, hP2, hP3, hP6, hP7, hP8, hP9, hP10, hP16, hP17⟩ := id hm
  refine en_L (by decide +kernel) (Nat.le_of_ble_eq_true rfl) ?_
  change Wd _ _ _ _ _ _ _ _ 0 [some _, some _] [] _ _ _ _
  refine r_iload_n (pc := 0) dX12_part_0 rfl ?_
  refine r_if_ne (pc := 1) 11 dX12_part_1 (by decide) (by omega) (fun h1 => ?_) (fun h1 => ?_)
  · skip
    refine r_iload_n (pc := 11) dX12_part_11 rfl ?_
    refine r_iconst (pc := 12) dX12_part_12 ?_
    refine r_icmp_ne (pc := 13) 23 dX12_part_13 (by decide) (by omega) (by omega) (fun h13 => ?_) (fun h13 => ?_)
    · skip
      refine r_aload_n (pc := 23) dX12_part_23 rfl ?_
      refine r_bipush (pc := 24) dX12_part_24 (by decide) ?_
      refine i_V1ix (pc := 26) okX12_bad inX12_bad selX12_bad q1101 dX12_part_26 (by assumption) rfl (by decide) (Nat.le_of_ble_eq_true rfl) (sX12_bad) ?_
      refine r_i2l (pc := 29) dX12_part_29 (by omega) ?_
      refine t_lret (pc := 30) dX12_part_30 rfl ?_
      unfold partM
      first
        | (rw [if_pos (by omega), if_pos (by omega)]; exact ⟨rfl, rfl, rfl⟩)
        | (rw [if_pos (by omega), if_neg (by omega)]; exact ⟨rfl, rfl, rfl⟩)
        | (rw [if_neg (by omega)]; exact QZ_bad)
    · skip
      refine r_aload_n (pc := 16) dX12_part_16 rfl ?_
      refine r_getL (pc := 17) dX12_part_17 frX12_23 (by assumption) ?_
      refine r_goto (pc := 20) 30 dX12_part_20 (by decide) ?_
      refine t_lret (pc := 30) dX12_part_30 rfl ?_
      unfold partM
      first
        | (rw [if_pos (by omega), if_pos (by omega)]; exact ⟨rfl, rfl, rfl⟩)
        | (rw [if_pos (by omega), if_neg (by omega)]; exact ⟨rfl, rfl, rfl⟩)
        | (rw [if_neg (by omega)]; exact QZ_bad)
  · skip
    refine r_aload_n (pc := 4) dX12_part_4 rfl ?_
    refine r_getL (pc := 5) dX12_part_5 frX12_161 (by assumption) ?_
    refine r_goto (pc := 8) 30 dX12_part_8 (by decide) ?_
    refine t_lret (pc := 30) dX12_part_30 rfl ?_
    unfold partM
    first
      | (rw [if_pos (by omega), if_pos (by omega)]; exact ⟨rfl, rfl, rfl⟩)
      | (rw [if_pos (by omega), if_neg (by omega)]; exact ⟨rfl, rfl, rfl⟩)
      | (rw [if_neg (by omega)]; exact QZ_bad)
def statusM (T : RS) (w : Int) : Int × RS := if 0 ≤ w ∧ w ≤ 2 then (T.2.2.2.1 w.toNat, T) else (-1, zB T)
theorem sX12_status {w : Int} (hm : RfL G C P m := by assumption) (hw : iR w := by omega) : SX12_status G [.ref m, .int (zI w)] C I P L (NI C (QZ m (statusM (rdM m I L) w).1 (statusM (rdM m I L) w).2 P)) := by
  obtain ⟨hBm, hKm, hK1, hK2, hK3, hK4, hK5, hK6, hK7, hK8, hK9, hK10, hK11, hP0, hP1, hP2, hP3, hP6, hP7, hP8, hP9, hP10, hP16, hP17⟩ := id hm
  refine en_I (by decide +kernel) (Nat.le_of_ble_eq_true rfl) ?_
  change Wd _ _ _ _ _ _ _ _ 0 [some _, some _] [] _ _ _ _
  refine r_iload_n (pc := 0) dX12_status_0 rfl ?_
  refine r_i2l (pc := 1) dX12_status_1 (by first | omega | (split <;> decide)) ?_
  refine r_lconst (v := 0) (pc := 2) dX12_status_2 (by decide) ?_
  refine r_ldc2_w (v := (2 : Int)) (pc := 3) dX12_status_3 kcX12_60 ?_
  refine i_S3ix (pc := 6) okX12_in staX12_in q1098 dX12_status_6 (by decide) (Nat.le_of_ble_eq_true rfl) (sX12_in) ?_
  refine r_if_eq (pc := 9) 21 dX12_status_9 (by decide) (by first | omega | (split <;> decide)) (fun h9 => ?_) (fun h9 => ?_)
  · skip
    refine r_aload_n (pc := 21) dX12_status_21 rfl ?_
    refine r_iconst (pc := 22) dX12_status_22 ?_
    refine i_V1ix (pc := 23) okX12_bad inX12_bad selX12_bad q1101 dX12_status_23 (by assumption) rfl (by decide) (Nat.le_of_ble_eq_true rfl) (sX12_bad) ?_
    refine t_iret (pc := 26) dX12_status_26 rfl rfl ?_
    unfold statusM
    first
      | (rw [if_pos (wt (by assumption))]; exact ⟨rfl, rfl, rfl⟩)
      | (rw [if_neg (wf (by assumption))]; exact QZ_bad)
  · skip
    have h1 := wt h9
    refine r_aload_n (pc := 12) dX12_status_12 rfl ?_
    refine r_getA (pc := 13) dX12_status_13 frX12_20 (by assumption) (by assumption) ?_
    refine r_iload_n (pc := 16) dX12_status_16 rfl ?_
    refine r_iald (j := w.toNat) (pc := 17) dX12_status_17 (by assumption) (by omega) (by first | omega | (split <;> decide)) (by omega) ?_
    refine r_goto (pc := 18) 26 dX12_status_18 (by decide) ?_
    refine t_iret (pc := 26) dX12_status_26 rfl rfl ?_
    unfold statusM
    first
      | (rw [if_pos (wt (by assumption))]; exact ⟨rfl, rfl, rfl⟩)
      | (rw [if_neg (wf (by assumption))]; exact QZ_bad)
end REF7

