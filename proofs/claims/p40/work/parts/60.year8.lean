/-! the calls that only tell -/
theorem QY_same {G : WG} {C : CF} {I : MI} {P : MP} {L : ML} {Y e : Int} (h : YI G C I P Y) : QY G e (rdY G I L) Y C e I P L := ⟨rfl, rfl, h⟩
def aboutS (S : YS) (f w : Int) : Int × YS := if (0 ≤ f ∧ f ≤ S.1.1 6 - 1) ∧ (0 ≤ w ∧ w ≤ 3) then (S.1.1 (7 + 4 * f.toNat + w.toNat), S) else (-2, yB S)
theorem sX11_about {G : WG} {C : CF} {I : MI} {P : MP} {L : ML} {Y f w : Int} (h : YI G C I P Y := by assumption) (hf' : iR f := by omega) (hw' : iR w := by omega) : SX11_about G [.ref (gB G), .int (zI f), .int (zI w)] C I P L (NI C (QY G (aboutS (rdY G I L) f w).1 (aboutS (rdY G I L) f w).2 Y C)) := by
  have hyl := h.1
  obtain ⟨hK, hK4, hP0, hP1, hP2, hP3, hP4, hP5, hP6, hr, hl, -⟩ := id hyl
  have hKl := hl.2.1
  have hPb : P (gB G + 11) 1 = some (gB G + 12) := hl.2.2.2.2.1
  have hb : BooksL G C P (gB G + 12) := hl.2.2.2.2.2.2.1
  have hKb := hb.2.1
  have hBI : BI (rdB I (gB G + 12)) := h.2.1.1.2.1
  have hPf : P (gB G + 11) 0 = some (gB G + 21) := hl.2.2.2.1
  have hf : FarmL G C P (gB G + 21) := hl.2.2.2.2.2.2.2.1
  have hKf := hf.2.1
  have hF : FI (rdF I (gB G + 21)) Y := h.2.1.1.1
  have hW : WayL C P (gB G + 21) (rdF I (gB G + 21)) := h.2.2.1.1.1
  have hs6 := hF.2.2.2.2.2.2.1
  have e10 : I (gB G + 21) 10 = rdF I (gB G + 21) 6 := at_10 I (gB G + 21)
  have eS : (rdY G I L).1.1 6 = rdF I (gB G + 21) 6 := rfl
  refine en_I (by decide +kernel) (Nat.le_of_ble_eq_true rfl) ?_
  change Wd _ _ _ _ _ _ _ _ 0 [some _, some _, some _, none] [] _ _ _ _
  refine r_aload_n (pc := 0) dX11_about_0 rfl ?_
  refine r_iload_n (pc := 1) dX11_about_1 rfl ?_
  refine i_V1ix (pc := 2) okX11_isFamily inX11_isFamily selX11_isFamily q336 dX11_about_2 (by assumption) rfl (by decide) (Nat.le_of_ble_eq_true rfl) (sFam) ?_
  refine r_if_ne (pc := 5) 15 dX11_about_5 (by decide) (by first | omega | (split <;> decide)) (fun h5 => ?_) (fun h5 => ?_)
  · skip
    refine r_aload_n (pc := 15) dX11_about_15 rfl ?_
    refine r_getP (pc := 16) dX11_about_16 frX11_40 (by assumption) (by assumption) ?_
    refine r_getP (pc := 19) dX11_about_19 frX11_72 (by assumption) (by assumption) ?_
    refine r_iload_n (pc := 22) dX11_about_22 rfl ?_
    have h1 := wt h5
    have hKm := (hf.2.2.2.2.2.2.2.2.2 f.toNat (by omega)).1
    have ek := at_k I (gB G + 21) (f := f.toNat) (by omega)
    have em := at_m I (gB G + 21) (f := f.toNat) (by omega)
    have ey := at_y I (gB G + 21) (f := f.toNat) (by omega)
    have ej := at_j I (gB G + 21) (f := f.toNat) (by omega)
    refine i_V1rx (pc := 23) okX2_member inX2_member selX2_member q340 dX11_about_23 (by assumption) rfl (by decide) (Nat.le_of_ble_eq_true rfl) (sX2_member (f := f.toNat)) ?_
    refine r_astore_n (pc := 26) dX11_about_26 (by decide) ?_
    refine r_iload_n (pc := 27) dX11_about_27 rfl ?_
    rcases (show w = 0 ∨ w = 1 ∨ w = 2 ∨ w = 3 ∨ (w < 0 ∨ 3 < w) by omega) with h28 | h28 | h28 | h28 | h28
    · skip
      refine r_tsIn (pc := 28) 60 dX11_about_28 (by first | omega | (split <;> decide)) (by first | omega | (split <;> decide)) (by first | omega | (split <;> decide)) (by rw [h28]; rfl) (by decide) ?_
      refine r_aload_n (pc := 60) dX11_about_60 rfl ?_
      refine r_getI (pc := 61) dX11_about_61 frX11_139 (by assumption) ?_
      refine t_iret (pc := 64) dX11_about_64 rfl rfl ?_
      subst h28; unfold aboutS
      rw [if_pos ⟨h1, by omega⟩, ek]; exact QY_same h
    · skip
      refine r_tsIn (pc := 28) 65 dX11_about_28 (by first | omega | (split <;> decide)) (by first | omega | (split <;> decide)) (by first | omega | (split <;> decide)) (by rw [h28]; rfl) (by decide) ?_
      refine r_aload_n (pc := 65) dX11_about_65 rfl ?_
      refine r_getI (pc := 66) dX11_about_66 frX11_142 (by assumption) ?_
      refine t_iret (pc := 69) dX11_about_69 rfl rfl ?_
      subst h28; unfold aboutS
      rw [if_pos ⟨h1, by omega⟩, em, show 8 + 4 * f.toNat = 7 + 4 * f.toNat + (1 : Int).toNat by omega]; exact QY_same h
    · skip
      refine r_tsIn (pc := 28) 70 dX11_about_28 (by first | omega | (split <;> decide)) (by first | omega | (split <;> decide)) (by first | omega | (split <;> decide)) (by rw [h28]; rfl) (by decide) ?_
      refine r_aload_n (pc := 70) dX11_about_70 rfl ?_
      refine r_getI (pc := 71) dX11_about_71 frX11_145 (by assumption) ?_
      refine t_iret (pc := 74) dX11_about_74 rfl rfl ?_
      subst h28; unfold aboutS
      rw [if_pos ⟨h1, by omega⟩, ey, show 9 + 4 * f.toNat = 7 + 4 * f.toNat + (2 : Int).toNat by omega]; exact QY_same h
    · skip
      refine r_tsIn (pc := 28) 75 dX11_about_28 (by first | omega | (split <;> decide)) (by first | omega | (split <;> decide)) (by first | omega | (split <;> decide)) (by rw [h28]; rfl) (by decide) ?_
      refine r_aload_n (pc := 75) dX11_about_75 rfl ?_
      refine r_getI (pc := 76) dX11_about_76 frX11_112 (by assumption) ?_
      refine t_iret (pc := 79) dX11_about_79 rfl rfl ?_
      subst h28; unfold aboutS
      rw [if_pos ⟨h1, by omega⟩, ej, show 10 + 4 * f.toNat = 7 + 4 * f.toNat + (3 : Int).toNat by omega]; exact QY_same h
    · skip
      refine r_tsOut (pc := 28) 80 dX11_about_28 (by first | omega | (split <;> decide)) h28 (by decide) ?_
      refine r_aload_n (pc := 80) dX11_about_80 rfl ?_
      refine r_bipush (pc := 81) dX11_about_81 (by decide) ?_
      refine i_V1ix (pc := 83) okX11_refuseBad inX11_refuseBad selX11_refuseBad q320 dX11_about_83 (by assumption) rfl (by decide) (Nat.le_of_ble_eq_true rfl) (sX11_refuseBad) ?_
      refine t_iret (pc := 86) dX11_about_86 rfl rfl ?_
      unfold aboutS
      rw [if_neg (fun hz => by omega)]
      exact QY_bad h
  · skip
    refine r_aload_n (pc := 8) dX11_about_8 rfl ?_
    refine r_bipush (pc := 9) dX11_about_9 (by decide) ?_
    refine i_V1ix (pc := 11) okX11_refuseBad inX11_refuseBad selX11_refuseBad q320 dX11_about_11 (by assumption) rfl (by decide) (Nat.le_of_ble_eq_true rfl) (sX11_refuseBad) ?_
    refine t_iret (pc := 14) dX11_about_14 rfl rfl ?_
    unfold aboutS
    rw [if_neg (fun hz => (wf h5) hz.1)]
    exact QY_bad h
def netS (S : YS) (f : Int) : Int × YS := if 0 ≤ f ∧ f ≤ S.1.1 6 - 1 then (balB S.1.2.1 (awayF S.1.1) f (S.1.2.1 33).toNat, S) else (-100000, yB S)
theorem sX11_net {G : WG} {C : CF} {I : MI} {P : MP} {L : ML} {Y f : Int} (h : YI G C I P Y := by assumption) (hY : Y ≤ 990000 := by omega) (hf' : iR f := by omega) : SX11_net G [.ref (gB G), .int (zI f)] C I P L (NI C (QY G (netS (rdY G I L) f).1 (netS (rdY G I L) f).2 Y C)) := by
  have hyl := h.1
  obtain ⟨hK, hK4, hP0, hP1, hP2, hP3, hP4, hP5, hP6, hr, hl, -⟩ := id hyl
  have hKl := hl.2.1
  have hPb : P (gB G + 11) 1 = some (gB G + 12) := hl.2.2.2.2.1
  have hb : BooksL G C P (gB G + 12) := hl.2.2.2.2.2.2.1
  have hKb := hb.2.1
  have hBI : BI (rdB I (gB G + 12)) := h.2.1.1.2.1
  have hPf : P (gB G + 11) 0 = some (gB G + 21) := hl.2.2.2.1
  have hf : FarmL G C P (gB G + 21) := hl.2.2.2.2.2.2.2.1
  have hKf := hf.2.1
  have hF : FI (rdF I (gB G + 21)) Y := h.2.1.1.1
  have hW : WayL C P (gB G + 21) (rdF I (gB G + 21)) := h.2.2.1.1.1
  have hs6 := hF.2.2.2.2.2.2.1
  have e10 : I (gB G + 21) 10 = rdF I (gB G + 21) 6 := at_10 I (gB G + 21)
  have eS : (rdY G I L).1.1 6 = rdF I (gB G + 21) 6 := rfl
  have hspan : 2 ≤ rdF I (gB G + 21) 0 ∧ rdF I (gB G + 21) 0 ≤ 70 := hF.1
  have hm1 := Int.emod_nonneg (rdF I (gB G + 21) 1) (show rdF I (gB G + 21) 0 ≠ 0 by omega)
  have hm2 := Int.emod_lt_of_pos (rdF I (gB G + 21) 1) (show 0 < rdF I (gB G + 21) 0 by omega)
  refine en_I (by decide +kernel) (Nat.le_of_ble_eq_true rfl) ?_
  change Wd _ _ _ _ _ _ _ _ 0 [some _, some _] [] _ _ _ _
  refine r_aload_n (pc := 0) dX11_net_0 rfl ?_
  refine r_iload_n (pc := 1) dX11_net_1 rfl ?_
  refine i_V1ix (pc := 2) okX11_isFamily inX11_isFamily selX11_isFamily q336 dX11_net_2 (by assumption) rfl (by decide) (Nat.le_of_ble_eq_true rfl) (sFam) ?_
  refine r_if_ne (pc := 5) 15 dX11_net_5 (by decide) (by first | omega | (split <;> decide)) (fun h5 => ?_) (fun h5 => ?_)
  · skip
    refine r_aload_n (pc := 15) dX11_net_15 rfl ?_
    refine r_getP (pc := 16) dX11_net_16 frX11_40 (by assumption) (by assumption) ?_
    refine r_getP (pc := 19) dX11_net_19 frX11_191 (by assumption) (by assumption) ?_
    refine r_iload_n (pc := 22) dX11_net_22 rfl ?_
    refine r_aload_n (pc := 23) dX11_net_23 rfl ?_
    refine r_getP (pc := 24) dX11_net_24 frX11_40 (by assumption) (by assumption) ?_
    refine r_getP (pc := 27) dX11_net_27 frX11_72 (by assumption) (by assumption) ?_
    refine i_V0ix (pc := 30) okX2_yearsToNoon inX2_yearsToNoon selX2_yearsToNoon q622 dX11_net_30 (by assumption) rfl (by decide) (Nat.le_of_ble_eq_true rfl) (sX2_yearsToNoon (Y := Y)) ?_
    refine i_V2ix (pc := 33) okX0_balance inX0_balance selX0_balance q626 dX11_net_33 (by assumption) rfl (by decide) (Nat.le_of_ble_eq_true rfl) (sX0_balance) ?_
    refine t_iret (pc := 36) dX11_net_36 rfl rfl ?_
    unfold netS
    rw [if_pos (wt h5)]
    exact QY_same h
  · skip
    refine r_aload_n (pc := 8) dX11_net_8 rfl ?_
    refine r_ldc (v := (-100000 : Int)) (pc := 9) dX11_net_9 kcX11_206 ?_
    refine i_V1ix (pc := 11) okX11_refuseBad inX11_refuseBad selX11_refuseBad q320 dX11_net_11 (by assumption) rfl (by decide) (Nat.le_of_ble_eq_true rfl) (sX11_refuseBad) ?_
    refine t_iret (pc := 14) dX11_net_14 rfl rfl ?_
    unfold netS
    rw [if_neg (wf h5)]
    exact QY_bad h
def liarsS (S : YS) (w : Int) : Int × YS := if 0 ≤ w ∧ w ≤ 1 then (if w = 0 then (fewL S.1.2.1 (S.1.2.1 59).toNat (2 ^ sizeF S.1.1 - 1) (2 ^ sizeF S.1.1) : Int) else (sureL S.1.2.1 (S.1.2.1 59).toNat (2 ^ sizeF S.1.1 - 1) (2 ^ sizeF S.1.1) : Int), S) else (-2, yB S)
def statusS (S : YS) (w : Int) : Int × YS := if w = 0 then (S.2.2.2.2.2.2.1, S) else if w = 1 then (S.2.2.2.2.2.2.2.1, S) else if w = 2 then (S.2.2.2.2.2.2.2.2.1, S) else (-1, yB S)
def partS (S : YS) (w : Int) : Int × YS := if 0 ≤ w ∧ w ≤ 1 then (if w = 0 then S.2.2.2.2.2.2.2.2.2.1 else S.2.2.2.2.2.2.2.2.2.2, S) else (-2, yB S)
def countS (S : YS) (w : Int) : Int × YS := if 0 ≤ w ∧ w ≤ 13 then (tallyS S.1.1 S.1.2.1 S.1.2.2.2.1 S.2.2.2.2.1 w, S) else (-2, yB S)
theorem sX11_count {G : WG} {C : CF} {I : MI} {P : MP} {L : ML} {Y w : Int} (h : YI G C I P Y := by assumption) (hw' : iR w := by omega) : SX11_count G [.ref (gB G), .int (zI w)] C I P L (NI C (QY G (countS (rdY G I L) w).1 (countS (rdY G I L) w).2 Y C)) := by
  have hyl := h.1
  obtain ⟨hK, hK4, hP0, hP1, hP2, hP3, hP4, hP5, hP6, hr, hl, -⟩ := id hyl
  have hKl := hl.2.1
  have hPb : P (gB G + 11) 1 = some (gB G + 12) := hl.2.2.2.2.1
  have hb : BooksL G C P (gB G + 12) := hl.2.2.2.2.2.2.1
  have hKb := hb.2.1
  have hBI : BI (rdB I (gB G + 12)) := h.2.1.1.2.1
  have hPf : P (gB G + 11) 0 = some (gB G + 21) := hl.2.2.2.1
  have hf : FarmL G C P (gB G + 21) := hl.2.2.2.2.2.2.2.1
  have hKf := hf.2.1
  have hF : FI (rdF I (gB G + 21)) Y := h.2.1.1.1
  have hW : WayL C P (gB G + 21) (rdF I (gB G + 21)) := h.2.2.1.1.1
  have hs6 := hF.2.2.2.2.2.2.1
  have e10 : I (gB G + 21) 10 = rdF I (gB G + 21) 6 := at_10 I (gB G + 21)
  have eS : (rdY G I L).1.1 6 = rdF I (gB G + 21) 6 := rfl
  refine en_I (by decide +kernel) (Nat.le_of_ble_eq_true rfl) ?_
  change Wd _ _ _ _ _ _ _ _ 0 [some _, some _] [] _ _ _ _
  refine r_iload_n (pc := 0) dX11_count_0 rfl ?_
  refine r_iconst (pc := 1) dX11_count_1 ?_
  refine r_bipush (pc := 2) dX11_count_2 (by decide) ?_
  refine i_S3ix (pc := 4) okX11_within staX11_within q317 dX11_count_4 (by decide) (Nat.le_of_ble_eq_true rfl) (sX11_within) ?_
  refine r_if_eq (pc := 7) 18 dX11_count_7 (by decide) (by first | omega | (split <;> decide)) (fun h7 => ?_) (fun h7 => ?_)
  · skip
    refine r_aload_n (pc := 18) dX11_count_18 rfl ?_
    refine r_bipush (pc := 19) dX11_count_19 (by decide) ?_
    refine i_V1ix (pc := 21) okX11_refuseBad inX11_refuseBad selX11_refuseBad q320 dX11_count_21 (by assumption) rfl (by decide) (Nat.le_of_ble_eq_true rfl) (sX11_refuseBad) ?_
    refine t_iret (pc := 24) dX11_count_24 rfl rfl ?_
    unfold countS
    rw [if_neg (wf h7)]
    exact QY_bad h
  · skip
    refine r_aload_n (pc := 10) dX11_count_10 rfl ?_
    refine r_iload_n (pc := 11) dX11_count_11 rfl ?_
    have h1 := wt h7
    refine i_V1ix (pc := 12) okX11_tally inX11_tally selX11_tally q688 dX11_count_12 (by assumption) rfl (by decide) (Nat.le_of_ble_eq_true rfl) (sX11_tally) ?_
    refine r_goto (pc := 15) 24 dX11_count_15 (by decide) ?_
    refine t_iret (pc := 24) dX11_count_24 rfl rfl ?_
    unfold countS
    rw [if_pos (wt h7)]
    exact QY_same h


