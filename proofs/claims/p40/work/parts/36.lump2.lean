/-! a lump's years -/
def goL (S : LSt) : LSt := (goF S.1 false, S.2.1, (S.2.2.1 + 1) % 6, min 6 (S.2.2.2.1 + 1), fun i => if (i : Int) = (S.2.2.1 + 1) % 6 then setF (S.2.2.2.2 i) S.1 else S.2.2.2.2 i)
def backL (S : LSt) : LSt := (bakF S.1 (S.2.2.2.2 S.2.2.1.toNat), S.2.1, (S.2.2.1 + 5) % 6, S.2.2.2.1 - 1, S.2.2.2.2)
theorem sX5_goBy {G : WG} {C : CF} {I : MI} {P : MP} {L : ML} {l : Nat} {Y : Int} (hl : LumpL G C P l := by assumption) (hW : WaysL C P l (rdL I l) := by assumption) (hI : LI (rdL I l) Y := by assumption) (hY : Y ≤ 1000000 := by omega) : SX5_goBy G [.ref l] C I P L (NI C (QLI G l (wantF (rdL I l).1 false) I (goL (rdL I l)) C P L)) := by
  obtain ⟨h0, hK, hK9, hP0, hP1, hP2, hb, hf, hp⟩ := id hl
  have hl3 : 0 ≤ I l 3 ∧ I l 3 < 6 := hI.2.2.1
  have hl4 : 0 ≤ I l 4 ∧ I l 4 ≤ 6 := hI.2.2.2.1
  have hF0 : FI (rdF I (l + 10)) Y := hI.1
  have hW0 : WayL C P (l + 10) (rdF I (l + 10)) := hW.1
  have hK10 := hf.2.1
  obtain ⟨n, hn⟩ : ∃ n : Nat, (I l 3 + 1) % 6 = (n : Int) := ⟨((I l 3 + 1) % 6).toNat, by omega⟩
  have hn6 : n < 6 := by omega
  have hFn := (hp n hn6).1
  have hPn := (hp n hn6).2
  have hKn := hFn.2.1
  have hWn : WayL C P (l + 20 + 10 * n) (rdF I (l + 20 + 10 * n)) := by
    have h := hW.2 n hn6
    rwa [rdL_p hn6] at h
  refine en_I (by decide +kernel) (Nat.le_of_ble_eq_true rfl) ?_
  change Wd _ _ _ _ _ _ _ _ 0 [some _, none] [] _ _ _ _
  refine r_aload_n (pc := 0) dX5_goBy_0 rfl ?_
  refine r_aload_n (pc := 1) dX5_goBy_1 rfl ?_
  refine r_getI (pc := 2) dX5_goBy_2 frX5_48 (by assumption) ?_
  refine r_iconst (pc := 5) dX5_goBy_5 ?_
  refine r_iadd (pc := 6) dX5_goBy_6 ?_
  refine r_bipush (pc := 7) dX5_goBy_7 (by decide) ?_
  refine i_SN2ix (pc := 9) okX11_leftOver staX11_leftOver nwX5_55 dX5_goBy_9 (by decide) (Nat.le_of_ble_eq_true rfl) (sX11_leftOver) ?_
  refine r_putI (pc := 12) dX5_goBy_12 fwX5_48 (by assumption) (by omega) ?_
  refine r_aload_n (pc := 15) dX5_goBy_15 rfl ?_
  refine r_bipush (pc := 16) dX5_goBy_16 (by decide) ?_
  refine r_aload_n (pc := 18) dX5_goBy_18 rfl ?_
  refine r_getI (pc := 19) dX5_goBy_19 frX5_37 (by assumption) ?_
  try simp only [u2_app, true_and, and_true, and_false, false_and, and_self, Nat.reduceEqDiff, ↓reduceIte]
  refine r_iconst (pc := 22) dX5_goBy_22 ?_
  refine r_iadd (pc := 23) dX5_goBy_23 ?_
  refine r_min (pc := 24) q355 stamthmin inimth codmthmin (by decide) (Nat.le_of_ble_eq_true rfl) dX5_goBy_24 (by omega) (by omega) ?_
  refine r_putI (pc := 27) dX5_goBy_27 fwX5_37 (by assumption) (by omega) ?_
  refine r_aload_n (pc := 30) dX5_goBy_30 rfl ?_
  refine r_getA (pc := 31) dX5_goBy_31 frX5_20 (by assumption) (by assumption) ?_
  refine r_aload_n (pc := 34) dX5_goBy_34 rfl ?_
  refine r_getI (pc := 35) dX5_goBy_35 frX5_48 (by assumption) ?_
  try simp only [u2_app, true_and, and_true, and_false, false_and, and_self, Nat.reduceEqDiff, ↓reduceIte]
  refine i_SN2rx (pc := 38) okX11_farmAt staX11_farmAt nwX5_51 dX5_goBy_38 (by decide) (Nat.le_of_ble_eq_true rfl) (sX11_farmAt (n := 6) (i := n)) ?_
  refine r_astore_n (pc := 41) dX5_goBy_41 (by decide) ?_
  refine r_aload_n (pc := 42) dX5_goBy_42 rfl ?_
  refine r_ifnull (pc := 43) dX5_goBy_43 ?_
  generalize hIz : u2 (u2 I l 3 ((I l 3 + 1) % 6)) l 4 (min 6 (I l 4 + 1)) = Iz
  have z10 : rdF Iz (l + 10) = rdF I (l + 10) := by rw [← hIz, rdF_u2 _ (by omega), rdF_u2 _ (by omega)]
  have zn : ∀ i, rdF Iz (l + 20 + 10 * i) = rdF I (l + 20 + 10 * i) := fun i => by rw [← hIz, rdF_u2 _ (by omega), rdF_u2 _ (by omega)]
  have zb : rdB Iz (l + 1) = rdB I (l + 1) := by rw [← hIz, rdB_u2 _ (by omega), rdB_u2 _ (by omega)]
  have z3 : Iz l 3 = (I l 3 + 1) % 6 := by rw [← hIz, u2_k _ _ _ _ (by decide), u2_s]
  have z4 : Iz l 4 = min 6 (I l 4 + 1) := by rw [← hIz, u2_s]
  have hzO : outL I Iz l := by rw [← hIz]; exact (outL.rf I l).u.u
  have hFz : FI (rdF Iz (l + 10)) Y := by rw [z10]; exact hF0
  have hWz : WayL C P (l + 10) (rdF Iz (l + 10)) := by rw [z10]; exact hW0
  have hWnz : WayL C P (l + 20 + 10 * n) (rdF Iz (l + 20 + 10 * n)) := by rw [zn]; exact hWn
  refine r_aload_n (pc := 46) dX5_goBy_46 rfl ?_
  refine r_aload_n (pc := 47) dX5_goBy_47 rfl ?_
  refine r_getP (pc := 48) dX5_goBy_48 frX5_27 (by assumption) (by assumption) ?_
  refine i_V1vg (pc := 51) okX2_setTo inX2_setTo selX2_setTo q361 dX5_goBy_51 (by assumption) rfl (by decide) (Nat.le_of_ble_eq_true rfl) (sX2_setTo) (fun I2 P2 L2 hq2 => ?_)
  obtain ⟨hT2, hO2, hOP2, hW2, rfl⟩ := hq2
  have hL2 : LumpL G C P2 l := hl.p hOP2 (Or.inr (Or.inr ⟨2 + n, by omega, by omega, by omega⟩))
  have hPf : P2 l 0 = some (l + 10) := hL2.2.2.2.1
  have hf2 := hL2.2.2.2.2.2.2.2.1
  have e2 : rdF I2 (l + 10) = rdF I (l + 10) := by rw [rdF_out hO2, z10]
  have hF2 : FI (rdF I2 (l + 10)) Y := by rw [e2]; exact hF0
  have hW20 : WayL C P2 (l + 10) (rdF I2 (l + 10)) := by rw [e2]; exact hW0.p hOP2
  refine r_aload_n (pc := 54) dX5_goBy_54 rfl ?_
  refine r_getP (pc := 55) dX5_goBy_55 frX5_27 (by assumption) (by assumption) ?_
  refine r_iconst (pc := 58) dX5_goBy_58 ?_
  refine i_V1ig (pc := 59) okX2_goBy inX2_goBy selX2_goBy q374 dX5_goBy_59 (by assumption) rfl (by decide) (Nat.le_of_ble_eq_true rfl) (sX2_goBy (bad := false)) (fun r3 I3 P3 L3 hq3 => ?_)
  obtain ⟨rfl, hT3, hO3, rfl, rfl⟩ := hq3
  refine t_iret (pc := 62) dX5_goBy_62 rfl rfl ?_
  rw [e2] at hT3
  refine ⟨by rw [e2]; rfl, rdL_mk hT3 ?_ ?_ ?_ (fun i hi => ?_) (fun i hi => ?_), (hzO.f hO2).f hO3, (outQ.rf P l).f hOP2, hL2, ⟨?_, fun i hi => ?_⟩, rfl⟩
  · rw [rdB_oF hO3, rdB_oF hO2, zb]; rfl
  · rw [hO3 l (by omega), hO2 l (by omega), z3]; rfl
  · rw [hO3 l (by omega), hO2 l (by omega), z4]; rfl
  · rw [rdL_p hi, rdF_out hO3 (by omega)]
    show _ = if (i : Int) = (I l 3 + 1) % 6 then setF _ (rdF I (l + 10)) else _
    by_cases hin : i = n
    · subst hin; rw [if_pos (by omega), hT2, zn, z10]
    · rw [if_neg (by omega), rdF_out hO2 (by omega), zn]
  · show (if (i : Int) = (I l 3 + 1) % 6 then _ else _) = _
    rw [if_neg (by omega), rdL_p6 hi]
  · exact way_fx (hW0.p hOP2) (fun g hg => fx_go _ _ (by unfold fixd; omega) (by omega))
  · show WayL C P2 _ (if (i : Int) = (I l 3 + 1) % 6 then setF _ (rdF I (l + 10)) else _)
    by_cases hin : i = n
    · subst hin; rw [if_pos (by omega), rdL_p hi, ← zn, ← z10]; exact hW2
    · rw [if_neg (by omega)]; exact (hW.2 i hi).p hOP2 (by omega)
theorem sX5_goBack0 {G : WG} {C : CF} {I : MI} {P : MP} {L : ML} {l : Nat} {Y : Int} (hl : LumpL G C P l := by assumption) (hI : LI (rdL I l) Y := by assumption) (hu : I l 4 = 0 := by assumption) : SX5_goBack G [.ref l] C I P L (NI C (XI 0 I P L)) := by
  obtain ⟨h0, hK, hK9, hP0, hP1, hP2, hb, hf, hp⟩ := id hl
  have hl3 : 0 ≤ I l 3 ∧ I l 3 < 6 := hI.2.2.1
  obtain ⟨n, hn⟩ : ∃ n : Nat, I l 3 = (n : Int) := ⟨(I l 3).toNat, by omega⟩
  have hn6 : n < 6 := by omega
  have hPn := (hp n hn6).2
  refine en_I (by decide +kernel) (Nat.le_of_ble_eq_true rfl) ?_
  change Wd _ _ _ _ _ _ _ _ 0 [some _, none] [] _ _ _ _
  refine r_aload_n (pc := 0) dX5_goBack_0 rfl ?_
  refine r_getA (pc := 1) dX5_goBack_1 frX5_20 (by assumption) (by assumption) ?_
  refine r_aload_n (pc := 4) dX5_goBack_4 rfl ?_
  refine r_getI (pc := 5) dX5_goBack_5 frX5_48 (by assumption) ?_
  refine i_SN2rx (pc := 8) okX11_farmAt staX11_farmAt nwX5_51 dX5_goBack_8 (by decide) (Nat.le_of_ble_eq_true rfl) (sX11_farmAt (n := 6) (i := n)) ?_
  refine r_astore_n (pc := 11) dX5_goBack_11 (by decide) ?_
  refine r_aload_n (pc := 12) dX5_goBack_12 rfl ?_
  refine r_getI (pc := 13) dX5_goBack_13 frX5_37 (by assumption) ?_
  refine r_if_eq (pc := 16) 23 dX5_goBack_16 (by decide) (by omega) (fun h16 => ?_) (fun h16 => ?_)
  · skip
    refine r_iconst (pc := 23) dX5_goBack_23 ?_
    refine t_iret (pc := 24) dX5_goBack_24 rfl rfl ?_
    exact ⟨rfl, rfl, rfl, rfl⟩
  · exfalso; omega
theorem sX5_goBack1 {G : WG} {C : CF} {I : MI} {P : MP} {L : ML} {l : Nat} {Y : Int} (hl : LumpL G C P l := by assumption) (hW : WaysL C P l (rdL I l) := by assumption) (hI : LI (rdL I l) Y := by assumption) (hu : 0 < I l 4 := by assumption) (hle : (rdL I l).2.2.2.2 (rdL I l).2.2.1.toNat 6 ≤ (rdL I l).1 6 := by assumption) : SX5_goBack G [.ref l] C I P L (NI C (QLI G l 1 I (backL (rdL I l)) C P L)) := by
  obtain ⟨h0, hK, hK9, hP0, hP1, hP2, hb, hf, hp⟩ := id hl
  have hl3 : 0 ≤ I l 3 ∧ I l 3 < 6 := hI.2.2.1
  have hl4 : 0 ≤ I l 4 ∧ I l 4 ≤ 6 := hI.2.2.2.1
  have hF0 : FI (rdF I (l + 10)) Y := hI.1
  have hK10 := hf.2.1
  obtain ⟨n, hn⟩ : ∃ n : Nat, I l 3 = (n : Int) := ⟨(I l 3).toNat, by omega⟩
  have hn6 : n < 6 := by omega
  have hFn := (hp n hn6).1
  have hPn := (hp n hn6).2
  have hnn : (rdL I l).2.2.1.toNat = n := by show (I l 3).toNat = n; omega
  have hFIn : FI (rdF I (l + 20 + 10 * n)) Y := by
    have h := hI.2.2.2.2 n hn6
    rwa [rdL_p hn6] at h
  rw [hnn, rdL_p hn6] at hle
  have hle2 : rdF I (l + 20 + 10 * n) 6 ≤ rdF I (l + 10) 6 := hle
  refine en_I (by decide +kernel) (Nat.le_of_ble_eq_true rfl) ?_
  change Wd _ _ _ _ _ _ _ _ 0 [some _, none] [] _ _ _ _
  refine r_aload_n (pc := 0) dX5_goBack_0 rfl ?_
  refine r_getA (pc := 1) dX5_goBack_1 frX5_20 (by assumption) (by assumption) ?_
  refine r_aload_n (pc := 4) dX5_goBack_4 rfl ?_
  refine r_getI (pc := 5) dX5_goBack_5 frX5_48 (by assumption) ?_
  refine i_SN2rx (pc := 8) okX11_farmAt staX11_farmAt nwX5_51 dX5_goBack_8 (by decide) (Nat.le_of_ble_eq_true rfl) (sX11_farmAt (n := 6) (i := n)) ?_
  refine r_astore_n (pc := 11) dX5_goBack_11 (by decide) ?_
  refine r_aload_n (pc := 12) dX5_goBack_12 rfl ?_
  refine r_getI (pc := 13) dX5_goBack_13 frX5_37 (by assumption) ?_
  refine r_if_eq (pc := 16) 23 dX5_goBack_16 (by decide) (by omega) (fun h16 => ?_) (fun h16 => ?_)
  · exfalso; omega
  · skip
    refine r_aload_n (pc := 19) dX5_goBack_19 rfl ?_
    refine r_ifnonnull (pc := 20) 25 dX5_goBack_20 (by decide) ?_
    refine r_aload_n (pc := 25) dX5_goBack_25 rfl ?_
    refine r_getP (pc := 26) dX5_goBack_26 frX5_27 (by assumption) (by assumption) ?_
    refine r_aload_n (pc := 29) dX5_goBack_29 rfl ?_
    refine i_V1vg (pc := 30) okX2_goBackTo inX2_goBackTo selX2_goBackTo q513 dX5_goBack_30 (by assumption) rfl (by decide) (Nat.le_of_ble_eq_true rfl) (sX2_goBackTo) (fun I2 P2 L2 hq2 => ?_)
    obtain ⟨hT2, hO2, rfl, rfl⟩ := hq2
    have e3 : I2 l 3 = I l 3 := by rw [hO2 l (by omega)]
    have e4 : I2 l 4 = I l 4 := by rw [hO2 l (by omega)]
    refine r_aload_n (pc := 33) dX5_goBack_33 rfl ?_
    refine r_aload_n (pc := 34) dX5_goBack_34 rfl ?_
    refine r_getI (pc := 35) dX5_goBack_35 frX5_48 (by assumption) ?_
    refine r_bipush (pc := 38) dX5_goBack_38 (by decide) ?_
    refine r_iadd (pc := 40) dX5_goBack_40 ?_
    refine r_iconst (pc := 41) dX5_goBack_41 ?_
    refine r_isub (pc := 42) dX5_goBack_42 ?_
    refine r_bipush (pc := 43) dX5_goBack_43 (by decide) ?_
    refine i_SN2ix (pc := 45) okX11_leftOver staX11_leftOver nwX5_55 dX5_goBack_45 (by decide) (Nat.le_of_ble_eq_true rfl) (sX11_leftOver) ?_
    refine r_putI (pc := 48) dX5_goBack_48 fwX5_48 (by assumption) (by omega) ?_
    refine r_aload_n (pc := 51) dX5_goBack_51 rfl ?_
    refine r_dup (pc := 52) dX5_goBack_52 rfl ?_
    refine r_getI (pc := 53) dX5_goBack_53 frX5_37 (by assumption) ?_
    try simp only [u2_app, true_and, and_true, and_false, false_and, and_self, Nat.reduceEqDiff, ↓reduceIte]
    refine r_iconst (pc := 56) dX5_goBack_56 ?_
    refine r_isub (pc := 57) dX5_goBack_57 ?_
    refine r_putI (pc := 58) dX5_goBack_58 fwX5_37 (by assumption) (by omega) ?_
    refine r_iconst (pc := 61) dX5_goBack_61 ?_
    refine t_iret (pc := 62) dX5_goBack_62 rfl rfl ?_
    refine ⟨rfl, rdL_mk ?_ ?_ ?_ ?_ (fun i hi => ?_) (fun i hi => rdL_p6 hi), ((outL.rf I l).f hO2).u.u, outQ.rf P l, hl, ⟨?_, fun i hi => hW.2 i hi⟩, rfl⟩
    · rw [rdF_u2 _ (by omega), rdF_u2 _ (by omega), hT2, hnn, rdL_p hn6]; rfl
    · rw [rdB_u2 _ (by omega), rdB_u2 _ (by omega), rdB_oF hO2]; rfl
    · rw [u2_k _ _ _ _ (by decide), u2_s, e3, show I l 3 + 6 - 1 = I l 3 + 5 by omega]; rfl
    · rw [u2_s, e4]; rfl
    · rw [rdF_u2 _ (by omega), rdF_u2 _ (by omega), rdF_out hO2 (by omega), rdL_p hi]
    · refine way_fx hW.1 (fun g hg => ?_)
      show bakF _ _ _ = _
      rw [bakF_app, if_neg (by omega)]
theorem LI_go {S : LSt} {Y : Int} (h : LI S Y) : LI (goL S) (Y + 1) := by
  have mono : ∀ {F : Nat → Int}, FI F Y → FI F (Y + 1) := fun hF => ⟨hF.1, ⟨hF.2.1.1, by have := hF.2.1.2; omega⟩, hF.2.2⟩
  obtain ⟨h1, h2, h3, h4, h5⟩ := h
  refine ⟨FI_go h1 false, h2, ?_, ?_, fun i hi => ?_⟩
  · show 0 ≤ (S.2.2.1 + 1) % 6 ∧ (S.2.2.1 + 1) % 6 < 6; omega
  · show 0 ≤ min 6 (S.2.2.2.1 + 1) ∧ min 6 (S.2.2.2.1 + 1) ≤ 6; omega
  · show FI (if (i : Int) = (S.2.2.1 + 1) % 6 then _ else _) _
    split
    · exact mono (FI_set (h5 i hi) h1)
    · exact mono (h5 i hi)
theorem LI_back {S : LSt} {Y : Int} (h : LI S Y) (hu : 0 < S.2.2.2.1) : LI (backL S) Y := by
  obtain ⟨h1, h2, h3, h4, h5⟩ := h
  refine ⟨FI_bak h1 (h5 _ (by omega)), h2, ?_, ?_, h5⟩
  · show 0 ≤ (S.2.2.1 + 5) % 6 ∧ (S.2.2.1 + 5) % 6 < 6; omega
  · show 0 ≤ S.2.2.2.1 - 1 ∧ S.2.2.2.1 - 1 ≤ 6; omega
theorem LI_set {S T : LSt} {Y Y2 : Int} (h : LI S Y) (h2 : LI T Y2) : LI (setL S T) Y2 := ⟨FI_set h.1 h2.1, h2.2.1, h2.2.2.1, h2.2.2.2.1, fun i hi => FI_set (h.2.2.2.2 i hi) (h2.2.2.2.2 i hi)⟩


