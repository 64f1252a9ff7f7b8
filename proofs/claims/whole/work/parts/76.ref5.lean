/-! the reference's calls: its state, want, held, teachers -/
abbrev RS : Type := (Nat → Int) × (Nat → Int) × (Nat → Int) × (Nat → Int) × (Nat → Int) × Int × Int × Int
def rdM (m : Nat) (I : MI) (L : ML) : RS := (I (m + 1), I (m + 2), I (m + 3), I (m + 4), I (m + 9), I m 11, L m 4, L m 5)
def zN (T : RS) (N : Nat → Int) : RS := (N, T.2)
def zB (T : RS) : RS := (T.1, T.2.1, T.2.2.1, up T.2.2.2.1 0 (T.2.2.2.1 0 + 1), T.2.2.2.2)
def zO (T : RS) : RS := (T.1, T.2.1, T.2.2.1, up T.2.2.2.1 1 (T.2.2.2.1 1 + 1), T.2.2.2.2)
def zF (T : RS) : RS := (T.1, T.2.1, T.2.2.1, up T.2.2.2.1 2 (T.2.2.2.1 2 + 1), T.2.2.2.2)
def QZ (m : Nat) (e : Int) (T : RS) (P : MP) : Int → MI → MP → ML → Prop := fun r I1 P1 L1 => r = e ∧ rdM m I1 L1 = T ∧ P = P1
theorem rdM_N (m : Nat) (I : MI) (L : ML) (N : Nat → Int) : rdM m (uR I (m + 1) N) L = zN (rdM m I L) N := by
  unfold rdM zN
  rw [uR_s, uR_n I N (show m + 2 ≠ m + 1 by omega), uR_n I N (show m + 3 ≠ m + 1 by omega), uR_n I N (show m + 4 ≠ m + 1 by omega), uR_n I N (show m + 9 ≠ m + 1 by omega), uR_n I N (show m ≠ m + 1 by omega)]
theorem rdM_4 (m : Nat) (I : MI) (L : ML) (F : Nat → Int) : rdM m (uR I (m + 4) F) L = ((rdM m I L).1, (rdM m I L).2.1, (rdM m I L).2.2.1, F, (rdM m I L).2.2.2.2) := by
  unfold rdM
  rw [uR_s, uR_n I F (show m + 1 ≠ m + 4 by omega), uR_n I F (show m + 2 ≠ m + 4 by omega), uR_n I F (show m + 3 ≠ m + 4 by omega), uR_n I F (show m + 9 ≠ m + 4 by omega), uR_n I F (show m ≠ m + 4 by omega)]
theorem QZ_bad {m : Nat} {e : Int} {I : MI} {P : MP} {L : ML} : QZ m e (zB (rdM m I L)) P e (uR I (m + 4) (up (I (m + 4)) 0 (I (m + 4) 0 + 1))) P L := ⟨rfl, rdM_4 m I L _, rfl⟩
theorem QZ_no {m : Nat} {e : Int} {I : MI} {P : MP} {L : ML} : QZ m e (zO (rdM m I L)) P e (uR I (m + 4) (up (I (m + 4)) 1 (I (m + 4) 1 + 1))) P L := ⟨rfl, rdM_4 m I L _, rfl⟩
theorem QZ_full {m : Nat} {e : Int} {I : MI} {P : MP} {L : ML} : QZ m e (zF (rdM m I L)) P e (uR I (m + 4) (up (I (m + 4)) 2 (I (m + 4) 2 + 1))) P L := ⟨rfl, rdM_4 m I L _, rfl⟩
theorem QZ_same {m : Nat} {e : Int} {I : MI} {P : MP} {L : ML} : QZ m e (rdM m I L) P e I P L := ⟨rfl, rfl, rfl⟩
theorem QZ_mk {m : Nat} {e r : Int} {T : RS} {I1 : MI} {P P1 : MP} {L1 : ML} (a : r = e) (b : rdM m I1 L1 = T) (c : P = P1) : QZ m (e, T).1 (e, T).2 P r I1 P1 L1 := ⟨a, b, c⟩
theorem rdM_1 (m : Nat) (I : MI) (L : ML) : (rdM m I L).1 = I (m + 1) := rfl
theorem rdM_w (m : Nat) (I : MI) (L : ML) (W : Nat → Int) : rdM m (uR (uR I (m + 5) W) (m + 1) (I (m + 1))) L = rdM m I L := by
  rw [rdM_N]
  unfold rdM zN
  rw [uR_n I W (show m + 2 ≠ m + 5 by omega), uR_n I W (show m + 3 ≠ m + 5 by omega), uR_n I W (show m + 4 ≠ m + 5 by omega), uR_n I W (show m + 9 ≠ m + 5 by omega), uR_n I W (show m ≠ m + 5 by omega)]
theorem mix33_lo (A B : Nat → Int) : ∀ k, k < 33 → mix33 A B k = A k := fun k hk => by unfold mix33; rw [if_pos hk]
theorem pop_W : ∀ s : Fin 64, popW 30 s.val = pop s.val := by decide +kernel
section REF5
variable {G : WG} {C : CF} {I : MI} {P : MP} {L : ML} {m : Nat} {Y : Int}
def wantM (T : RS) (n : Int) : Int × RS := if 0 ≤ n ∧ n ≤ 200 then (firstF T.1 n.toNat, T) else (-2, zB T)
theorem sX12_want {n : Int} (hm : RfL G C P m := by assumption) (hF : FI (I (m + 1)) Y := by assumption) (hY : Y ≤ 900000 := by omega) (hn : iR n := by omega) : SX12_want G [.ref m, .int (zI n)] C I P L (NI C (QZ m (wantM (rdM m I L) n).1 (wantM (rdM m I L) n).2 P)) := by
  obtain ⟨hBm, hKm, hK1, hK2, hK3, hK4, hK5, hK6, hK7, hK8, hK9, hK10, hK11, hP0, hP1, hP2, hP3, hP6, hP7, hP8, hP9, hP10, hP16, hP17⟩ := id hm
  have eN : (uR I (m + 5) (mix33 (I (m + 1)) (I (m + 5)))) (m + 1) = I (m + 1) := uR_n I _ (show m + 1 ≠ m + 5 by omega)
  refine en_I (by decide +kernel) (Nat.le_of_ble_eq_true rfl) ?_
  change Wd _ _ _ _ _ _ _ _ 0 [some _, some _, none] [] _ _ _ _
  refine r_iload_n (pc := 0) dX12_want_0 rfl ?_
  refine r_i2l (pc := 1) dX12_want_1 (by first | omega | (split <;> decide)) ?_
  refine r_lconst (v := 0) (pc := 2) dX12_want_2 (by decide) ?_
  refine r_ldc2_w (v := (200 : Int)) (pc := 3) dX12_want_3 kcX12_156 ?_
  refine i_S3ix (pc := 6) okX12_in staX12_in q1098 dX12_want_6 (by decide) (Nat.le_of_ble_eq_true rfl) (sX12_in) ?_
  refine r_if_ne (pc := 9) 19 dX12_want_9 (by decide) (by first | omega | (split <;> decide)) (fun h9 => ?_) (fun h9 => ?_)
  · skip
    refine r_aload_n (pc := 19) dX12_want_19 rfl ?_
    have h1 := wt h9
    refine i_V0vx (pc := 20) okX12_start inX12_start selX12_start q1224 dX12_want_20 (by assumption) rfl (by decide) (Nat.le_of_ble_eq_true rfl) (sX12_start) ?_
    try simp only [u2_I, uR_uR, uR_app, eq_self, Nat.reduceEqDiff, Nat.add_eq_left, Nat.left_eq_add, ↓reduceIte]
    refine r_aload_n (pc := 23) dX12_want_23 rfl ?_
    refine r_iload_n (pc := 24) dX12_want_24 rfl ?_
    refine i_V1ig (pc := 25) okX12_firstWant inX12_firstWant selX12_firstWant q1244 dX12_want_25 (by assumption) rfl (by decide) (Nat.le_of_ble_eq_true rfl) (sX12_firstWant (Y := Y) (n := n.toNat) (hR := eN)) (fun r3 I3 P3 L3 hq3 => ?_)
    obtain ⟨hr3, ⟨R', hR', rfl⟩, rfl, rfl⟩ := hq3
    try simp only [u2_I, uR_uR, uR_app, eq_self, Nat.reduceEqDiff, Nat.add_eq_left, Nat.left_eq_add, ↓reduceIte]
    refine r_istore_n (pc := 28) dX12_want_28 (by decide) ?_
    refine r_aload_n (pc := 29) dX12_want_29 rfl ?_
    refine i_V0vx (pc := 30) okX12_back inX12_back selX12_back q1235 dX12_want_30 (by assumption) rfl (by decide) (Nat.le_of_ble_eq_true rfl) (sX12_back) ?_
    try simp only [u2_I, uR_uR, uR_app, eq_self, Nat.reduceEqDiff, Nat.add_eq_left, Nat.left_eq_add, ↓reduceIte]
    refine r_iload_n (pc := 33) dX12_want_33 rfl ?_
    refine t_iret (pc := 34) dX12_want_34 rfl rfl ?_
    unfold wantM
    rw [if_pos h1, mix33_back (mix33_lo _ _) hR']
    exact ⟨hr3, rdM_w m I L _, rfl⟩
  · skip
    refine r_aload_n (pc := 12) dX12_want_12 rfl ?_
    refine r_bipush (pc := 13) dX12_want_13 (by decide) ?_
    refine i_V1ix (pc := 15) okX12_bad inX12_bad selX12_bad q1101 dX12_want_15 (by assumption) rfl (by decide) (Nat.le_of_ble_eq_true rfl) (sX12_bad) ?_
    refine t_iret (pc := 18) dX12_want_18 rfl rfl ?_
    unfold wantM
    rw [if_neg (wf h9)]
    exact QZ_bad
def heldM (T : RS) (n : Int) : Int × RS := if 0 ≤ n ∧ n ≤ 200 then (heldF T.1 n.toNat, T) else (-10, zB T)
theorem sX12_held {n : Int} (hm : RfL G C P m := by assumption) (hF : FI (I (m + 1)) Y := by assumption) (hY : Y ≤ 900000 := by omega) (hn : iR n := by omega) : SX12_held G [.ref m, .int (zI n)] C I P L (NI C (QZ m (heldM (rdM m I L) n).1 (heldM (rdM m I L) n).2 P)) := by
  obtain ⟨hBm, hKm, hK1, hK2, hK3, hK4, hK5, hK6, hK7, hK8, hK9, hK10, hK11, hP0, hP1, hP2, hP3, hP6, hP7, hP8, hP9, hP10, hP16, hP17⟩ := id hm
  have eN : (uR I (m + 5) (mix33 (I (m + 1)) (I (m + 5)))) (m + 1) = I (m + 1) := uR_n I _ (show m + 1 ≠ m + 5 by omega)
  have eN2 : uR (uR I (m + 5) (mix33 (I (m + 1)) (I (m + 5)))) (m + 1) (I (m + 1)) = uR I (m + 5) (mix33 (I (m + 1)) (I (m + 5))) := by
    have q := uR_same (uR I (m + 5) (mix33 (I (m + 1)) (I (m + 5)))) (m + 1)
    rwa [eN] at q
  refine en_I (by decide +kernel) (Nat.le_of_ble_eq_true rfl) ?_
  change Wd _ _ _ _ _ _ _ _ 0 [some _, some _, none, none] [] _ _ _ _
  have done : ∀ (g : Nat) (gi : Int), (0 ≤ n ∧ n ≤ 200) → g < 1000 → gi = (g : Int) → enough (I (m + 1)) n.toNat g = true → (∀ k, k < g → enough (I (m + 1)) n.toNat k = false) → Wd G yX12_held cX12_held 4 (some .int) 6 (C.2.1 + 0, C.2.2 + 0) (NI C (QZ m (heldM (rdM m I L) n).1 (heldM (rdM m I L) n).2 P)) 27 [some (.ref m), some (.int (zI n)), some (.int (zI gi)), some (.int (zI 1))] [] C (uR (uR I (m + 5) (mix33 (I (m + 1)) (I (m + 5)))) (m + 1) (I (m + 1))) P L := by
    intro g gi hz hg hgi he hk
    refine r_iload_n (pc := 27) dX12_held_27 rfl ?_
    refine r_if_ne (pc := 28) 79 dX12_held_28 (by decide) (by omega) (fun h28 => ?_) (fun h28 => ?_)
    · skip
      refine r_iload_n (pc := 79) dX12_held_79 rfl ?_
      refine r_if_eq (pc := 80) 87 dX12_held_80 (by decide) (by omega) (fun h80 => ?_) (fun h80 => ?_)
      · exact absurd h80 (by decide)
      · skip
        refine r_iload_n (pc := 83) dX12_held_83 rfl ?_
        refine r_goto (pc := 84) 88 dX12_held_84 (by decide) ?_
        refine t_iret (pc := 88) dX12_held_88 rfl rfl ?_
        unfold heldM
        rw [if_pos hz, rdM_1]
        refine QZ_mk ?_ (rdM_w m I L _) rfl
        unfold heldF
        rw [fst_at he hk 1000 hg]; exact hgi
    · exact absurd h28 (by decide)
  have loop : ∀ (d g : Nat) (gi : Int), g + d = 1000 → (0 ≤ n ∧ n ≤ 200) → gi = (g : Int) → (∀ k, k < g → enough (I (m + 1)) n.toNat k = false) → Wd G yX12_held cX12_held 4 (some .int) 6 (C.2.1 + 0, C.2.2 + 0) (NI C (QZ m (heldM (rdM m I L) n).1 (heldM (rdM m I L) n).2 P)) 27 [some (.ref m), some (.int (zI n)), some (.int (zI gi)), some (.int (zI 0))] [] C (uR (uR I (m + 5) (mix33 (I (m + 1)) (I (m + 5)))) (m + 1) (I (m + 1))) P L := by
    intro d
    induction d using Nat.strongRecOn with
    | _ d ih =>
      intro g gi hd hz hgi hk
      have hG : g < 1000 → FI (up (I (m + 1)) 2 gi) Y := fun hlt => FI_st hF (by omega) (by omega) (by omega)
      have hen : enough (I (m + 1)) n.toNat g = decide (firstF (up (I (m + 1)) 2 gi) n.toNat = -1) := by rw [hgi]; rfl
      have hfr := fst_eq (p := wants (up (I (m + 1)) 2 gi)) n.toNat
      have hfi : iR (firstF (up (I (m + 1)) 2 gi) n.toNat) := by
        show iR (fst _ _)
        rcases hfr with ⟨q, -⟩ | ⟨k, q, q2, -⟩
        · rw [q]; decide
        · rw [q]; omega
      refine r_iload_n (pc := 27) dX12_held_27 rfl ?_
      refine r_if_ne (pc := 28) 79 dX12_held_28 (by decide) (by omega) (fun h28 => ?_) (fun h28 => ?_)
      · exact absurd rfl h28
      · skip
        refine r_iload_n (pc := 31) dX12_held_31 rfl ?_
        refine r_sipush (pc := 32) dX12_held_32 (by decide) ?_
        refine r_icmp_ge (pc := 35) 79 dX12_held_35 (by decide) (by omega) (by omega) (fun h35 => ?_) (fun h35 => ?_)
        · skip
          refine r_iload_n (pc := 79) dX12_held_79 rfl ?_
          refine r_if_eq (pc := 80) 87 dX12_held_80 (by decide) (by omega) (fun h80 => ?_) (fun h80 => ?_)
          · skip
            refine r_iconst (pc := 87) dX12_held_87 ?_
            refine t_iret (pc := 88) dX12_held_88 rfl rfl ?_
            unfold heldM
            rw [if_pos hz, rdM_1]
            refine QZ_mk ?_ (rdM_w m I L _) rfl
            unfold heldF
            rw [fst_no 1000 (fun k hk2 => hk k (by omega))]
          · exact absurd rfl h80
        · skip
          refine r_aload_n (pc := 38) dX12_held_38 rfl ?_
          refine r_getA (pc := 39) dX12_held_39 frX12_7 (by assumption) (by assumption) ?_
          refine r_iconst (pc := 42) dX12_held_42 ?_
          refine r_iload_n (pc := 43) dX12_held_43 rfl ?_
          refine r_iast (j := 2) (pc := 44) dX12_held_44 (by assumption) (by omega) rfl (by omega) (by omega) ?_
          try simp only [u2_I, uR_uR, uR_app, eq_self, Nat.reduceEqDiff, Nat.add_eq_left, Nat.left_eq_add, ↓reduceIte]
          refine r_aload_n (pc := 45) dX12_held_45 rfl ?_
          refine r_iload_n (pc := 46) dX12_held_46 rfl ?_
          have hFG := hG (by omega)
          refine i_V1ig (pc := 47) okX12_firstWant inX12_firstWant selX12_firstWant q1244 dX12_held_47 (by assumption) rfl (by decide) (Nat.le_of_ble_eq_true rfl) (sX12_firstWant (Y := Y) (n := n.toNat)) (fun r3 I3 P3 L3 hq3 => ?_)
          obtain ⟨rfl, ⟨R', hR', rfl⟩, rfl, rfl⟩ := hq3
          try simp only [u2_I, uR_uR, uR_app, eq_self, Nat.reduceEqDiff, Nat.add_eq_left, Nat.left_eq_add, ↓reduceIte]
          refine r_iconst (pc := 50) dX12_held_50 ?_
          refine r_icmp_ne (pc := 51) 58 dX12_held_51 (by decide) (by omega) (by omega) (fun h51 => ?_) (fun h51 => ?_)
          · skip
            refine r_iconst (pc := 58) dX12_held_58 ?_
            refine r_istore_n (pc := 59) dX12_held_59 (by decide) ?_
            refine r_aload_n (pc := 60) dX12_held_60 rfl ?_
            refine i_V0vx (pc := 61) okX12_back inX12_back selX12_back q1235 dX12_held_61 (by assumption) rfl (by decide) (Nat.le_of_ble_eq_true rfl) (sX12_back) ?_
            try simp only [u2_I, uR_uR, uR_app, eq_self, Nat.reduceEqDiff, Nat.add_eq_left, Nat.left_eq_add, ↓reduceIte]
            rw [mix33_back (mix33_lo _ _) (((hiE.rf (I (m + 1))).up (by omega)).tr hR')]
            refine r_iload_n (pc := 64) dX12_held_64 rfl ?_
            refine r_iload_n (pc := 65) dX12_held_65 rfl ?_
            refine r_if_eq (pc := 66) 73 dX12_held_66 (by decide) (by omega) (fun h66 => ?_) (fun h66 => ?_)
            · skip
              refine r_iconst (pc := 73) dX12_held_73 ?_
              refine r_iadd (pc := 74) dX12_held_74 ?_
              refine r_istore_n (pc := 75) dX12_held_75 (by decide) ?_
              refine r_goto (pc := 76) 27 dX12_held_76 (by decide) ?_
              refine ih (d - 1) (by omega) (g + 1) _ (by omega) hz (by omega) (fun k hk2 => ?_)
              by_cases hko : k = g
              · rw [hko, hen]; exact decide_eq_false h51
              · exact hk k (by omega)
            · exact absurd h66 (by decide)
          · skip
            refine r_iconst (pc := 54) dX12_held_54 ?_
            refine r_goto (pc := 55) 59 dX12_held_55 (by decide) ?_
            refine r_istore_n (pc := 59) dX12_held_59 (by decide) ?_
            refine r_aload_n (pc := 60) dX12_held_60 rfl ?_
            refine i_V0vx (pc := 61) okX12_back inX12_back selX12_back q1235 dX12_held_61 (by assumption) rfl (by decide) (Nat.le_of_ble_eq_true rfl) (sX12_back) ?_
            try simp only [u2_I, uR_uR, uR_app, eq_self, Nat.reduceEqDiff, Nat.add_eq_left, Nat.left_eq_add, ↓reduceIte]
            rw [mix33_back (mix33_lo _ _) (((hiE.rf (I (m + 1))).up (by omega)).tr hR')]
            refine r_iload_n (pc := 64) dX12_held_64 rfl ?_
            refine r_iload_n (pc := 65) dX12_held_65 rfl ?_
            refine r_if_eq (pc := 66) 73 dX12_held_66 (by decide) (by omega) (fun h66 => ?_) (fun h66 => ?_)
            · exact absurd h66 (by decide)
            · skip
              refine r_iconst (pc := 69) dX12_held_69 ?_
              refine r_goto (pc := 70) 74 dX12_held_70 (by decide) ?_
              refine r_iadd (pc := 74) dX12_held_74 ?_
              refine r_istore_n (pc := 75) dX12_held_75 (by decide) ?_
              refine r_goto (pc := 76) 27 dX12_held_76 (by decide) ?_
              refine done g _ hz (by omega) (by omega) (by rw [hen]; exact decide_eq_true h51) hk
  refine r_iload_n (pc := 0) dX12_held_0 rfl ?_
  refine r_i2l (pc := 1) dX12_held_1 (by first | omega | (split <;> decide)) ?_
  refine r_lconst (v := 0) (pc := 2) dX12_held_2 (by decide) ?_
  refine r_ldc2_w (v := (200 : Int)) (pc := 3) dX12_held_3 kcX12_156 ?_
  refine i_S3ix (pc := 6) okX12_in staX12_in q1098 dX12_held_6 (by decide) (Nat.le_of_ble_eq_true rfl) (sX12_in) ?_
  refine r_if_ne (pc := 9) 19 dX12_held_9 (by decide) (by first | omega | (split <;> decide)) (fun h9 => ?_) (fun h9 => ?_)
  · skip
    refine r_aload_n (pc := 19) dX12_held_19 rfl ?_
    have h1 := wt h9
    refine i_V0vx (pc := 20) okX12_start inX12_start selX12_start q1224 dX12_held_20 (by assumption) rfl (by decide) (Nat.le_of_ble_eq_true rfl) (sX12_start) ?_
    try simp only [u2_I, uR_uR, uR_app, eq_self, Nat.reduceEqDiff, Nat.add_eq_left, Nat.left_eq_add, ↓reduceIte]
    refine r_iconst (pc := 23) dX12_held_23 ?_
    refine r_istore_n (pc := 24) dX12_held_24 (by decide) ?_
    refine r_iconst (pc := 25) dX12_held_25 ?_
    refine r_istore_n (pc := 26) dX12_held_26 (by decide) ?_
    rw [← eN2]
    exact loop 1000 0 _ (by omega) h1 rfl (fun k hk => absurd hk (by omega))
  · skip
    refine r_aload_n (pc := 12) dX12_held_12 rfl ?_
    refine r_bipush (pc := 13) dX12_held_13 (by decide) ?_
    refine i_V1ix (pc := 15) okX12_bad inX12_bad selX12_bad q1101 dX12_held_15 (by assumption) rfl (by decide) (Nat.le_of_ble_eq_true rfl) (sX12_bad) ?_
    refine t_iret (pc := 18) dX12_held_18 rfl rfl ?_
    unfold heldM
    rw [if_neg (wf h9)]
    exact QZ_bad
def teachersM (T : RS) (n : Int) : Int × RS := if 0 ≤ n ∧ n ≤ 60 then (fewT T.1 n.toNat (2 ^ sizeF T.1), T) else (-2, zB T)
theorem sX12_teachers {n : Int} (hm : RfL G C P m := by assumption) (hF : FI (I (m + 1)) Y := by assumption) (hY : Y ≤ 900000 := by omega) (hn : iR n := by omega) : SX12_teachers G [.ref m, .int (zI n)] C I P L (NI C (QZ m (teachersM (rdM m I L) n).1 (teachersM (rdM m I L) n).2 P)) := by
  obtain ⟨hBm, hKm, hK1, hK2, hK3, hK4, hK5, hK6, hK7, hK8, hK9, hK10, hK11, hP0, hP1, hP2, hP3, hP6, hP7, hP8, hP9, hP10, hP16, hP17⟩ := id hm
  obtain ⟨hs6, hsz⟩ := sizeF_le hF
  have eN : (uR I (m + 5) (mix33 (I (m + 1)) (I (m + 5)))) (m + 1) = I (m + 1) := uR_n I _ (show m + 1 ≠ m + 5 by omega)
  have eN2 : uR (uR I (m + 5) (mix33 (I (m + 1)) (I (m + 5)))) (m + 1) (I (m + 1)) = uR I (m + 5) (mix33 (I (m + 1)) (I (m + 5))) := by
    have q := uR_same (uR I (m + 5) (mix33 (I (m + 1)) (I (m + 5)))) (m + 1)
    rwa [eN] at q
  have hp2 : 2 ^ sizeF (I (m + 1)) ≤ 64 := Nat.le_trans (Nat.pow_le_pow_right (by decide) hs6) (by decide)
  have nb : ∀ b : Bool, iR (if b = true then 1 else 0) := fun b => by cases b <;> decide
  have hshl : b_shl 1 (I (m + 1) 6) = ((2 ^ sizeF (I (m + 1)) : Nat) : Int) := by rw [← hsz]; exact b_shl1 (by omega)
  refine en_I (by decide +kernel) (Nat.le_of_ble_eq_true rfl) ?_
  change Wd _ _ _ _ _ _ _ _ 0 [some _, some _, none, none, none] [] _ _ _ _
  have loop : ∀ (d s : Nat) (si b : Int) (w : Option Value), s + d = 2 ^ sizeF (I (m + 1)) → (0 ≤ n ∧ n ≤ 60) → si = (s : Int) → b = fewT (I (m + 1)) n.toNat s → Wd G yX12_teachers cX12_teachers 5 (some .int) 6 (C.2.1 + 0, C.2.2 + 0) (NI C (QZ m (teachersM (rdM m I L) n).1 (teachersM (rdM m I L) n).2 P)) 27 [some (.ref m), some (.int (zI n)), some (.int (zI b)), some (.int (zI si)), w] [] C (uR (uR I (m + 5) (mix33 (I (m + 1)) (I (m + 5)))) (m + 1) (I (m + 1))) P L := by
    intro d
    induction d using Nat.strongRecOn with
    | _ d ih =>
      intro s si b w hd hz hsi hb
      have hfi := fewT_in (I (m + 1)) n.toNat s
      rw [← hb] at hfi
      have hst : fewT (I (m + 1)) n.toNat (s + 1) = if (b = -1 ∨ pop s < pop b.toNat) ∧ keepF (I (m + 1)) n.toNat s = true then (s : Int) else b := by rw [fewT, ← hb]
      by_cases hlt : s < 2 ^ sizeF (I (m + 1))
      · obtain ⟨v1, hv1, hv1p⟩ : ∃ v, v = popW 30 s ∧ v = pop s := ⟨_, rfl, pop_W ⟨s, by omega⟩⟩
        obtain ⟨v2, hv2, hv2p⟩ : ∃ v, v = popW 30 b.toNat ∧ v = pop b.toNat := ⟨_, rfl, pop_W ⟨b.toNat, by omega⟩⟩
        rw [← hv1p, ← hv2p] at hst
        have p1 := pop_le s
        have p2 := pop_le b.toNat
        rw [← hv1p] at p1
        rw [← hv2p] at p2
        refine r_iload_n (pc := 27) dX12_teachers_27 rfl ?_
        refine r_iconst (pc := 28) dX12_teachers_28 ?_
        refine r_aload_n (pc := 29) dX12_teachers_29 rfl ?_
        refine i_V0ix (pc := 30) okX12_families inX12_families selX12_families q1118 dX12_teachers_30 (by assumption) rfl (by decide) (Nat.le_of_ble_eq_true rfl) (sX12_families) ?_
        try simp only [u2_I, uR_uR, uR_app, eq_self, Nat.reduceEqDiff, Nat.add_eq_left, Nat.left_eq_add, ↓reduceIte]
        refine r_ishl (pc := 33) dX12_teachers_33 ?_
        rw [hshl]
        refine r_icmp_ge (pc := 34) 90 dX12_teachers_34 (by decide) (by first | omega | exact nb _) (by first | omega | exact nb _) (fun h34 => ?_) (fun h34 => ?_)
        · exfalso; omega
        · skip
          refine r_iload_n (pc := 37) dX12_teachers_37 rfl ?_
          refine r_iconst (pc := 38) dX12_teachers_38 ?_
          refine r_icmp_eq (pc := 39) 53 dX12_teachers_39 (by decide) (by first | omega | exact nb _) (by first | omega | exact nb _) (fun h39 => ?_) (fun h39 => ?_)
          · skip
            refine r_iconst (pc := 53) dX12_teachers_53 ?_
            refine r_goto (pc := 54) 58 dX12_teachers_54 (by decide) ?_
            refine r_istore (pc := 58) dX12_teachers_58 (by decide) ?_
            refine r_iload (pc := 60) dX12_teachers_60 rfl ?_
            refine r_if_eq (pc := 62) 78 dX12_teachers_62 (by decide) (by first | omega | exact nb _) (fun h62 => ?_) (fun h62 => ?_)
            · exact absurd h62 (by decide)
            · skip
              refine r_aload_n (pc := 65) dX12_teachers_65 rfl ?_
              refine r_iload_n (pc := 66) dX12_teachers_66 rfl ?_
              refine r_iload_n (pc := 67) dX12_teachers_67 rfl ?_
              refine i_V2ig (pc := 68) okX12_allRemember inX12_allRemember selX12_allRemember q1280 dX12_teachers_68 (by assumption) rfl (by decide) (Nat.le_of_ble_eq_true rfl) (sX12_allRemember (Y := Y) (n := n.toNat) (s := s)) (fun r3 I3 P3 L3 hq3 => ?_)
              obtain ⟨rfl, ⟨R', hR', rfl⟩, rfl, rfl⟩ := hq3
              try simp only [u2_I, uR_uR, uR_app, eq_self, Nat.reduceEqDiff, Nat.add_eq_left, Nat.left_eq_add, ↓reduceIte]
              refine r_if_eq (pc := 71) 78 dX12_teachers_71 (by decide) (by first | omega | exact nb _) (fun h71 => ?_) (fun h71 => ?_)
              · skip
                refine r_iload_n (pc := 78) dX12_teachers_78 rfl ?_
                refine r_istore_n (pc := 79) dX12_teachers_79 (by decide) ?_
                refine r_aload_n (pc := 80) dX12_teachers_80 rfl ?_
                refine i_V0vx (pc := 81) okX12_back inX12_back selX12_back q1235 dX12_teachers_81 (by assumption) rfl (by decide) (Nat.le_of_ble_eq_true rfl) (sX12_back) ?_
                try simp only [u2_I, uR_uR, uR_app, eq_self, Nat.reduceEqDiff, Nat.add_eq_left, Nat.left_eq_add, ↓reduceIte]
                first | rw [mix33_back (mix33_lo _ _) hR'] | rw [mix33_back (mix33_lo _ _) (hiE.rf (I (m + 1)))]
                refine r_iinc (pc := 84) dX12_teachers_84 rfl ?_
                refine r_goto (pc := 87) 27 dX12_teachers_87 (by decide) ?_
                refine ih (d - 1) (by omega) (s + 1) _ _ _ (by omega) hz (by omega) ?_
                rw [hst, if_neg (fun q => by revert h71; rw [q.2]; simp)]
              · skip
                refine r_iload_n (pc := 74) dX12_teachers_74 rfl ?_
                refine r_goto (pc := 75) 79 dX12_teachers_75 (by decide) ?_
                refine r_istore_n (pc := 79) dX12_teachers_79 (by decide) ?_
                refine r_aload_n (pc := 80) dX12_teachers_80 rfl ?_
                refine i_V0vx (pc := 81) okX12_back inX12_back selX12_back q1235 dX12_teachers_81 (by assumption) rfl (by decide) (Nat.le_of_ble_eq_true rfl) (sX12_back) ?_
                try simp only [u2_I, uR_uR, uR_app, eq_self, Nat.reduceEqDiff, Nat.add_eq_left, Nat.left_eq_add, ↓reduceIte]
                first | rw [mix33_back (mix33_lo _ _) hR'] | rw [mix33_back (mix33_lo _ _) (hiE.rf (I (m + 1)))]
                refine r_iinc (pc := 84) dX12_teachers_84 rfl ?_
                refine r_goto (pc := 87) 27 dX12_teachers_87 (by decide) ?_
                refine ih (d - 1) (by omega) (s + 1) _ _ _ (by omega) hz (by omega) ?_
                rw [hst, if_pos ⟨by omega, by revert h71; cases keepF (I (m + 1)) n.toNat s <;> simp⟩]; exact hsi
          · skip
            refine r_iload_n (pc := 42) dX12_teachers_42 rfl ?_
            refine i_S1ix (pc := 43) okX12_bits staX12_bits q1266 dX12_teachers_43 (by decide) (Nat.le_of_ble_eq_true rfl) (sX12_bits (s := s)) ?_
            try simp only [u2_I, uR_uR, uR_app, eq_self, Nat.reduceEqDiff, Nat.add_eq_left, Nat.left_eq_add, ↓reduceIte]
            rw [← hv1]
            refine r_iload_n (pc := 46) dX12_teachers_46 rfl ?_
            refine i_S1ix (pc := 47) okX12_bits staX12_bits q1266 dX12_teachers_47 (by decide) (Nat.le_of_ble_eq_true rfl) (sX12_bits (s := b.toNat)) ?_
            try simp only [u2_I, uR_uR, uR_app, eq_self, Nat.reduceEqDiff, Nat.add_eq_left, Nat.left_eq_add, ↓reduceIte]
            rw [← hv2]
            refine r_icmp_ge (pc := 50) 57 dX12_teachers_50 (by decide) (by first | omega | exact nb _) (by first | omega | exact nb _) (fun h50 => ?_) (fun h50 => ?_)
            · skip
              refine r_iconst (pc := 57) dX12_teachers_57 ?_
              refine r_istore (pc := 58) dX12_teachers_58 (by decide) ?_
              refine r_iload (pc := 60) dX12_teachers_60 rfl ?_
              refine r_if_eq (pc := 62) 78 dX12_teachers_62 (by decide) (by first | omega | exact nb _) (fun h62 => ?_) (fun h62 => ?_)
              · skip
                refine r_iload_n (pc := 78) dX12_teachers_78 rfl ?_
                refine r_istore_n (pc := 79) dX12_teachers_79 (by decide) ?_
                refine r_aload_n (pc := 80) dX12_teachers_80 rfl ?_
                refine i_V0vx (pc := 81) okX12_back inX12_back selX12_back q1235 dX12_teachers_81 (by assumption) rfl (by decide) (Nat.le_of_ble_eq_true rfl) (sX12_back) ?_
                try simp only [u2_I, uR_uR, uR_app, eq_self, Nat.reduceEqDiff, Nat.add_eq_left, Nat.left_eq_add, ↓reduceIte]
                first | rw [mix33_back (mix33_lo _ _) hR'] | rw [mix33_back (mix33_lo _ _) (hiE.rf (I (m + 1)))]
                refine r_iinc (pc := 84) dX12_teachers_84 rfl ?_
                refine r_goto (pc := 87) 27 dX12_teachers_87 (by decide) ?_
                refine ih (d - 1) (by omega) (s + 1) _ _ _ (by omega) hz (by omega) ?_
                rw [hst, if_neg (fun q => by omega)]
              · exact absurd h62 (by decide)
            · skip
              refine r_iconst (pc := 53) dX12_teachers_53 ?_
              refine r_goto (pc := 54) 58 dX12_teachers_54 (by decide) ?_
              refine r_istore (pc := 58) dX12_teachers_58 (by decide) ?_
              refine r_iload (pc := 60) dX12_teachers_60 rfl ?_
              refine r_if_eq (pc := 62) 78 dX12_teachers_62 (by decide) (by first | omega | exact nb _) (fun h62 => ?_) (fun h62 => ?_)
              · exact absurd h62 (by decide)
              · skip
                refine r_aload_n (pc := 65) dX12_teachers_65 rfl ?_
                refine r_iload_n (pc := 66) dX12_teachers_66 rfl ?_
                refine r_iload_n (pc := 67) dX12_teachers_67 rfl ?_
                refine i_V2ig (pc := 68) okX12_allRemember inX12_allRemember selX12_allRemember q1280 dX12_teachers_68 (by assumption) rfl (by decide) (Nat.le_of_ble_eq_true rfl) (sX12_allRemember (Y := Y) (n := n.toNat) (s := s)) (fun r3 I3 P3 L3 hq3 => ?_)
                obtain ⟨rfl, ⟨R', hR', rfl⟩, rfl, rfl⟩ := hq3
                try simp only [u2_I, uR_uR, uR_app, eq_self, Nat.reduceEqDiff, Nat.add_eq_left, Nat.left_eq_add, ↓reduceIte]
                refine r_if_eq (pc := 71) 78 dX12_teachers_71 (by decide) (by first | omega | exact nb _) (fun h71 => ?_) (fun h71 => ?_)
                · skip
                  refine r_iload_n (pc := 78) dX12_teachers_78 rfl ?_
                  refine r_istore_n (pc := 79) dX12_teachers_79 (by decide) ?_
                  refine r_aload_n (pc := 80) dX12_teachers_80 rfl ?_
                  refine i_V0vx (pc := 81) okX12_back inX12_back selX12_back q1235 dX12_teachers_81 (by assumption) rfl (by decide) (Nat.le_of_ble_eq_true rfl) (sX12_back) ?_
                  try simp only [u2_I, uR_uR, uR_app, eq_self, Nat.reduceEqDiff, Nat.add_eq_left, Nat.left_eq_add, ↓reduceIte]
                  first | rw [mix33_back (mix33_lo _ _) hR'] | rw [mix33_back (mix33_lo _ _) (hiE.rf (I (m + 1)))]
                  refine r_iinc (pc := 84) dX12_teachers_84 rfl ?_
                  refine r_goto (pc := 87) 27 dX12_teachers_87 (by decide) ?_
                  refine ih (d - 1) (by omega) (s + 1) _ _ _ (by omega) hz (by omega) ?_
                  rw [hst, if_neg (fun q => by revert h71; rw [q.2]; simp)]
                · skip
                  refine r_iload_n (pc := 74) dX12_teachers_74 rfl ?_
                  refine r_goto (pc := 75) 79 dX12_teachers_75 (by decide) ?_
                  refine r_istore_n (pc := 79) dX12_teachers_79 (by decide) ?_
                  refine r_aload_n (pc := 80) dX12_teachers_80 rfl ?_
                  refine i_V0vx (pc := 81) okX12_back inX12_back selX12_back q1235 dX12_teachers_81 (by assumption) rfl (by decide) (Nat.le_of_ble_eq_true rfl) (sX12_back) ?_
                  try simp only [u2_I, uR_uR, uR_app, eq_self, Nat.reduceEqDiff, Nat.add_eq_left, Nat.left_eq_add, ↓reduceIte]
                  first | rw [mix33_back (mix33_lo _ _) hR'] | rw [mix33_back (mix33_lo _ _) (hiE.rf (I (m + 1)))]
                  refine r_iinc (pc := 84) dX12_teachers_84 rfl ?_
                  refine r_goto (pc := 87) 27 dX12_teachers_87 (by decide) ?_
                  refine ih (d - 1) (by omega) (s + 1) _ _ _ (by omega) hz (by omega) ?_
                  rw [hst, if_pos ⟨by omega, by revert h71; cases keepF (I (m + 1)) n.toNat s <;> simp⟩]; exact hsi
      · have hse : s = 2 ^ sizeF (I (m + 1)) := by omega
        refine r_iload_n (pc := 27) dX12_teachers_27 rfl ?_
        refine r_iconst (pc := 28) dX12_teachers_28 ?_
        refine r_aload_n (pc := 29) dX12_teachers_29 rfl ?_
        refine i_V0ix (pc := 30) okX12_families inX12_families selX12_families q1118 dX12_teachers_30 (by assumption) rfl (by decide) (Nat.le_of_ble_eq_true rfl) (sX12_families) ?_
        try simp only [u2_I, uR_uR, uR_app, eq_self, Nat.reduceEqDiff, Nat.add_eq_left, Nat.left_eq_add, ↓reduceIte]
        refine r_ishl (pc := 33) dX12_teachers_33 ?_
        rw [hshl]
        refine r_icmp_ge (pc := 34) 90 dX12_teachers_34 (by decide) (by omega) (by omega) (fun h34 => ?_) (fun h34 => ?_)
        · skip
          refine r_iload_n (pc := 90) dX12_teachers_90 rfl ?_
          refine t_iret (pc := 91) dX12_teachers_91 rfl rfl ?_
          unfold teachersM
          rw [if_pos hz]
          exact ⟨by rw [hb, hse]; rfl, rdM_w m I L _, rfl⟩
        · exfalso; omega
  refine r_iload_n (pc := 0) dX12_teachers_0 rfl ?_
  refine r_i2l (pc := 1) dX12_teachers_1 (by first | omega | (split <;> decide)) ?_
  refine r_lconst (v := 0) (pc := 2) dX12_teachers_2 (by decide) ?_
  refine r_ldc2_w (v := (60 : Int)) (pc := 3) dX12_teachers_3 kcX12_164 ?_
  refine i_S3ix (pc := 6) okX12_in staX12_in q1098 dX12_teachers_6 (by decide) (Nat.le_of_ble_eq_true rfl) (sX12_in) ?_
  refine r_if_ne (pc := 9) 19 dX12_teachers_9 (by decide) (by first | omega | (split <;> decide)) (fun h9 => ?_) (fun h9 => ?_)
  · skip
    refine r_iconst (pc := 19) dX12_teachers_19 ?_
    have h1 := wt h9
    refine r_istore_n (pc := 20) dX12_teachers_20 (by decide) ?_
    refine r_aload_n (pc := 21) dX12_teachers_21 rfl ?_
    refine i_V0vx (pc := 22) okX12_start inX12_start selX12_start q1224 dX12_teachers_22 (by assumption) rfl (by decide) (Nat.le_of_ble_eq_true rfl) (sX12_start) ?_
    try simp only [u2_I, uR_uR, uR_app, eq_self, Nat.reduceEqDiff, Nat.add_eq_left, Nat.left_eq_add, ↓reduceIte]
    refine r_iconst (pc := 25) dX12_teachers_25 ?_
    refine r_istore_n (pc := 26) dX12_teachers_26 (by decide) ?_
    rw [← eN2]
    exact loop (2 ^ sizeF (I (m + 1))) 0 _ _ _ (by omega) h1 rfl rfl
  · skip
    refine r_aload_n (pc := 12) dX12_teachers_12 rfl ?_
    refine r_bipush (pc := 13) dX12_teachers_13 (by decide) ?_
    refine i_V1ix (pc := 15) okX12_bad inX12_bad selX12_bad q1101 dX12_teachers_15 (by assumption) rfl (by decide) (Nat.le_of_ble_eq_true rfl) (sX12_bad) ?_
    refine t_iret (pc := 18) dX12_teachers_18 rfl rfl ?_
    unfold teachersM
    rw [if_neg (wf h9)]
    exact QZ_bad
end REF5

