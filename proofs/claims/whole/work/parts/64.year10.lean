/-! eats, apart, bears -/
def eatsS (S : YS) (f y : Int) : Int × YS := if (0 ≤ f ∧ f ≤ S.1.1 6 - 1) ∧ (0 ≤ y ∧ y ≤ 9999) then (mealK (S.1.1 (7 + 4 * f.toNat)) (S.1.1 (8 + 4 * f.toNat)) (noonF S.1.1 y), S) else (-2, yB S)
theorem sX11_eats {G : WG} {C : CF} {I : MI} {P : MP} {L : ML} {Y f y : Int} (h : YI G C I P Y := by assumption) (hf' : iR f := by omega) (hy' : iR y := by omega) : SX11_eats G [.ref (gB G), .int (zI f), .int (zI y)] C I P L (NI C (QY G (eatsS (rdY G I L) f y).1 (eatsS (rdY G I L) f y).2 Y C)) := by
  have hyl := h.1
  obtain ⟨hK, hK4, hP0, hP1, hP2, hP3, hP4, hP5, hP6, hr, hl, -⟩ := id hyl
  have hKl := hl.2.1
  have hPb : P (gB G + 11) 1 = some (gB G + 12) := hl.2.2.2.2.1
  have hb : BooksL G C P (gB G + 12) := hl.2.2.2.2.2.2.1
  have hKb := hb.2.1
  have hBI : BI (rdB I (gB G + 12)) := h.2.1.1.2.1
  have hPf : P (gB G + 11) 0 = some (gB G + 21) := hl.2.2.2.1
  have hf : FarmL G C P (gB G + 21) := hl.2.2.2.2.2.2.2.1
  have hKf := hf.2.1
  have hF : FI (rdF I (gB G + 21)) Y := h.2.1.1.1
  have hW : WayL C P (gB G + 21) (rdF I (gB G + 21)) := h.2.2.1.1.1
  have hs6 := hF.2.2.2.2.2.2.1
  have e10 : I (gB G + 21) 10 = rdF I (gB G + 21) 6 := at_10 I (gB G + 21)
  have eS : (rdY G I L).1.1 6 = rdF I (gB G + 21) 6 := rfl
  have hw4 := hBI.2.2.2.1
  have e3 : I (gB G + 12) 3 = ((rdB I (gB G + 12) 90).toNat : Int) := by rw [ab_3 I (gB G + 12)]; omega
  have e3' : I (gB G + 12) 3 = rdB I (gB G + 12) 90 := ab_3 I (gB G + 12)
  have eS3 : (rdY G I L).1.2.1 90 = rdB I (gB G + 12) 90 := rfl
  have hsp : 2 ≤ I (gB G + 21) 4 ∧ I (gB G + 21) 4 ≤ 70 := hF.1
  refine en_I (by decide +kernel) (Nat.le_of_ble_eq_true rfl) ?_
  change Wd _ _ _ _ _ _ _ _ 0 [some _, some _, some _] [] _ _ _ _
  refine r_aload_n (pc := 0) dX11_eats_0 rfl ?_
  refine r_iload_n (pc := 1) dX11_eats_1 rfl ?_
  refine i_V1ix (pc := 2) okX11_isFamily inX11_isFamily selX11_isFamily q385 dX11_eats_2 (by assumption) rfl (by decide) (Nat.le_of_ble_eq_true rfl) (sFam) ?_
  refine r_if_eq (pc := 5) 19 dX11_eats_5 (by decide) (by first | omega | exact iR_b _ | (split <;> decide)) (fun h5 => ?_) (fun h5 => ?_)
  · skip
    refine r_aload_n (pc := 19) dX11_eats_19 rfl ?_
    refine r_bipush (pc := 20) dX11_eats_20 (by decide) ?_
    refine i_V1ix (pc := 22) okX11_refuseBad inX11_refuseBad selX11_refuseBad q337 dX11_eats_22 (by assumption) rfl (by decide) (Nat.le_of_ble_eq_true rfl) (sX11_refuseBad) ?_
    refine t_iret (pc := 25) dX11_eats_25 rfl rfl ?_
    have hz : ¬ ((0 ≤ f ∧ f ≤ (rdY G I L).1.1 6 - 1) ∧ (0 ≤ y ∧ y ≤ 9999)) := by
      first
      | exact fun hz => (wf h5) hz.1
      | exact fun hz => (wf h16) hz.2
    unfold eatsS
    rw [if_neg hz]
    exact QY_bad h
  · skip
    refine r_iload_n (pc := 8) dX11_eats_8 rfl ?_
    refine r_iconst (pc := 9) dX11_eats_9 ?_
    refine r_sipush (pc := 10) dX11_eats_10 (by decide) ?_
    refine i_S3ix (pc := 13) okX11_within staX11_within q334 dX11_eats_13 (by decide) (Nat.le_of_ble_eq_true rfl) (sX11_within) ?_
    refine r_if_ne (pc := 16) 26 dX11_eats_16 (by decide) (by first | omega | exact iR_b _ | (split <;> decide)) (fun h16 => ?_) (fun h16 => ?_)
    · skip
      refine r_aload_n (pc := 26) dX11_eats_26 rfl ?_
      refine r_getP (pc := 27) dX11_eats_27 frX11_40 (by assumption) (by assumption) ?_
      refine r_getP (pc := 30) dX11_eats_30 frX11_72 (by assumption) (by assumption) ?_
      refine r_iload_n (pc := 33) dX11_eats_33 rfl ?_
      have h1 := wt h5
      have h2 := wt h16
      have hf6 : f.toNat < 6 := by omega
      have hKm := (hf.2.2.2.2.2.2.2.2.2 f.toNat hf6).1
      have ek := at_k I (gB G + 21) hf6
      have em := at_m I (gB G + 21) hf6
      obtain ⟨w, hPw, hKw⟩ := hW f.toNat hf6
      have hbf := hF.2.2.2.2.2.2.2 f.toNat hf6
      rw [← ek, ← em] at hbf
      rw [← ek] at hKw
      refine i_V1rx (pc := 34) okX2_member inX2_member selX2_member q389 dX11_eats_34 (by assumption) rfl (by decide) (Nat.le_of_ble_eq_true rfl) (sX2_member (f := f.toNat)) ?_
      refine r_aload_n (pc := 37) dX11_eats_37 rfl ?_
      refine r_getP (pc := 38) dX11_eats_38 frX11_40 (by assumption) (by assumption) ?_
      refine r_getP (pc := 41) dX11_eats_41 frX11_72 (by assumption) (by assumption) ?_
      refine r_iload_n (pc := 44) dX11_eats_44 rfl ?_
      refine i_V1ix (pc := 45) okX2_isNoon inX2_isNoon selX2_isNoon q718 dX11_eats_45 (by assumption) rfl (by decide) (Nat.le_of_ble_eq_true rfl) (sX2_isNoon) ?_
      refine i_V1ix (pc := 48) okX1_needs inX1_needs selX1_needs q719 dX11_eats_48 (by assumption) rfl (by decide) (Nat.le_of_ble_eq_true rfl) (sX1_needs (k := I (gB G + 21 + 4 + f.toNat) 1) (w := w) (n := noonF (rdF I (gB G + 21)) y)) ?_
      refine t_iret (pc := 51) dX11_eats_51 rfl rfl ?_
      unfold eatsS
      rw [if_pos ⟨h1, h2⟩, ek, em]
      exact QY_same h
    · skip
      refine r_aload_n (pc := 19) dX11_eats_19 rfl ?_
      refine r_bipush (pc := 20) dX11_eats_20 (by decide) ?_
      refine i_V1ix (pc := 22) okX11_refuseBad inX11_refuseBad selX11_refuseBad q337 dX11_eats_22 (by assumption) rfl (by decide) (Nat.le_of_ble_eq_true rfl) (sX11_refuseBad) ?_
      refine t_iret (pc := 25) dX11_eats_25 rfl rfl ?_
      have hz : ¬ ((0 ≤ f ∧ f ≤ (rdY G I L).1.1 6 - 1) ∧ (0 ≤ y ∧ y ≤ 9999)) := by
        first
        | exact fun hz => (wf h5) hz.1
        | exact fun hz => (wf h16) hz.2
      unfold eatsS
      rw [if_neg hz]
      exact QY_bad h
theorem sWord {G : WG} {C : CF} {I : MI} {P : MP} {L : ML} {Y f : Int} (h : YI G C I P Y := by assumption) (hf' : iR f := by omega) : SX11_isWord G [.ref (gB G), .int (zI f)] C I P L (NI C (XI (if 0 ≤ f ∧ f ≤ (rdY G I L).1.2.1 90 - 1 then 1 else 0) I P L)) := by
  have hyl := h.1
  have hs := h.2.1.1.2.1.2.2.2.1
  exact sX11_isWord (hs := hs)
def apartS (S : YS) (v w : Int) : Int × YS := if (0 ≤ v ∧ v ≤ S.1.2.1 90 - 1) ∧ (0 ≤ w ∧ w ≤ S.1.2.1 90 - 1) then (apR S.1.2.1 v.toNat (rowB S.1.2.1 w.toNat) 6, S) else (-2, yB S)
theorem sX11_apart {G : WG} {C : CF} {I : MI} {P : MP} {L : ML} {Y v w : Int} (h : YI G C I P Y := by assumption) (hv' : iR v := by omega) (hw' : iR w := by omega) : SX11_apart G [.ref (gB G), .int (zI v), .int (zI w)] C I P L (NI C (QY G (apartS (rdY G I L) v w).1 (apartS (rdY G I L) v w).2 Y C)) := by
  have hyl := h.1
  obtain ⟨hK, hK4, hP0, hP1, hP2, hP3, hP4, hP5, hP6, hr, hl, -⟩ := id hyl
  have hKl := hl.2.1
  have hPb : P (gB G + 11) 1 = some (gB G + 12) := hl.2.2.2.2.1
  have hb : BooksL G C P (gB G + 12) := hl.2.2.2.2.2.2.1
  have hKb := hb.2.1
  have hBI : BI (rdB I (gB G + 12)) := h.2.1.1.2.1
  have hPf : P (gB G + 11) 0 = some (gB G + 21) := hl.2.2.2.1
  have hf : FarmL G C P (gB G + 21) := hl.2.2.2.2.2.2.2.1
  have hKf := hf.2.1
  have hF : FI (rdF I (gB G + 21)) Y := h.2.1.1.1
  have hW : WayL C P (gB G + 21) (rdF I (gB G + 21)) := h.2.2.1.1.1
  have hs6 := hF.2.2.2.2.2.2.1
  have e10 : I (gB G + 21) 10 = rdF I (gB G + 21) 6 := at_10 I (gB G + 21)
  have eS : (rdY G I L).1.1 6 = rdF I (gB G + 21) 6 := rfl
  have hw4 := hBI.2.2.2.1
  have e3 : I (gB G + 12) 3 = ((rdB I (gB G + 12) 90).toNat : Int) := by rw [ab_3 I (gB G + 12)]; omega
  have e3' : I (gB G + 12) 3 = rdB I (gB G + 12) 90 := ab_3 I (gB G + 12)
  have eS3 : (rdY G I L).1.2.1 90 = rdB I (gB G + 12) 90 := rfl
  refine en_I (by decide +kernel) (Nat.le_of_ble_eq_true rfl) ?_
  change Wd _ _ _ _ _ _ _ _ 0 [some _, some _, some _] [] _ _ _ _
  refine r_aload_n (pc := 0) dX11_apart_0 rfl ?_
  refine r_iload_n (pc := 1) dX11_apart_1 rfl ?_
  refine i_V1ix (pc := 2) okX11_isWord inX11_isWord selX11_isWord q939 dX11_apart_2 (by assumption) rfl (by decide) (Nat.le_of_ble_eq_true rfl) (sWord) ?_
  refine r_if_eq (pc := 5) 16 dX11_apart_5 (by decide) (by first | omega | (split <;> decide)) (fun h5 => ?_) (fun h5 => ?_)
  · skip
    refine r_aload_n (pc := 16) dX11_apart_16 rfl ?_
    refine r_bipush (pc := 17) dX11_apart_17 (by decide) ?_
    refine i_V1ix (pc := 19) okX11_refuseBad inX11_refuseBad selX11_refuseBad q337 dX11_apart_19 (by assumption) rfl (by decide) (Nat.le_of_ble_eq_true rfl) (sX11_refuseBad) ?_
    refine t_iret (pc := 22) dX11_apart_22 rfl rfl ?_
    have hz : ¬ ((0 ≤ v ∧ v ≤ (rdY G I L).1.2.1 90 - 1) ∧ (0 ≤ w ∧ w ≤ (rdY G I L).1.2.1 90 - 1)) := by
      first
      | exact fun hz => (wf h5) hz.1
      | exact fun hz => (wf h13) hz.2
    unfold apartS
    rw [if_neg hz]
    exact QY_bad h
  · skip
    refine r_aload_n (pc := 8) dX11_apart_8 rfl ?_
    refine r_iload_n (pc := 9) dX11_apart_9 rfl ?_
    refine i_V1ix (pc := 10) okX11_isWord inX11_isWord selX11_isWord q939 dX11_apart_10 (by assumption) rfl (by decide) (Nat.le_of_ble_eq_true rfl) (sWord) ?_
    refine r_if_ne (pc := 13) 23 dX11_apart_13 (by decide) (by first | omega | (split <;> decide)) (fun h13 => ?_) (fun h13 => ?_)
    · skip
      refine r_aload_n (pc := 23) dX11_apart_23 rfl ?_
      refine r_getP (pc := 24) dX11_apart_24 frX11_40 (by assumption) (by assumption) ?_
      refine r_getP (pc := 27) dX11_apart_27 frX11_191 (by assumption) (by assumption) ?_
      refine r_iload_n (pc := 30) dX11_apart_30 rfl ?_
      refine r_iload_n (pc := 31) dX11_apart_31 rfl ?_
      have h1 := wt h5
      have h2 := wt h13
      refine i_V2ix (pc := 32) okX0_wordsApart inX0_wordsApart selX0_wordsApart q954 dX11_apart_32 (by assumption) rfl (by decide) (Nat.le_of_ble_eq_true rfl) (sX0_wordsApart (v := v.toNat) (w := w.toNat)) ?_
      refine t_iret (pc := 35) dX11_apart_35 rfl rfl ?_
      unfold apartS
      rw [if_pos ⟨h1, h2⟩]
      exact QY_same h
    · skip
      refine r_aload_n (pc := 16) dX11_apart_16 rfl ?_
      refine r_bipush (pc := 17) dX11_apart_17 (by decide) ?_
      refine i_V1ix (pc := 19) okX11_refuseBad inX11_refuseBad selX11_refuseBad q337 dX11_apart_19 (by assumption) rfl (by decide) (Nat.le_of_ble_eq_true rfl) (sX11_refuseBad) ?_
      refine t_iret (pc := 22) dX11_apart_22 rfl rfl ?_
      have hz : ¬ ((0 ≤ v ∧ v ≤ (rdY G I L).1.2.1 90 - 1) ∧ (0 ≤ w ∧ w ≤ (rdY G I L).1.2.1 90 - 1)) := by
        first
        | exact fun hz => (wf h5) hz.1
        | exact fun hz => (wf h13) hz.2
      unfold apartS
      rw [if_neg hz]
      exact QY_bad h
def bearsS (S : YS) : Int := if nearO S.1.2.1 (S.1.2.1 90).toNat = -1 then -1 else max 0 (nearO S.1.2.1 (S.1.2.1 90).toNat - 1) / 2
theorem sX11_bears {G : WG} {C : CF} {I : MI} {P : MP} {L : ML} {Y : Int} (h : YI G C I P Y := by assumption) : SX11_bears G [.ref (gB G)] C I P L (NI C (QY G (bearsS (rdY G I L)) (rdY G I L) Y C)) := by
  have hyl := h.1
  obtain ⟨hK, hK4, hP0, hP1, hP2, hP3, hP4, hP5, hP6, hr, hl, -⟩ := id hyl
  have hKl := hl.2.1
  have hPb : P (gB G + 11) 1 = some (gB G + 12) := hl.2.2.2.2.1
  have hb : BooksL G C P (gB G + 12) := hl.2.2.2.2.2.2.1
  have hKb := hb.2.1
  have hBI : BI (rdB I (gB G + 12)) := h.2.1.1.2.1
  have hPf : P (gB G + 11) 0 = some (gB G + 21) := hl.2.2.2.1
  have hf : FarmL G C P (gB G + 21) := hl.2.2.2.2.2.2.2.1
  have hKf := hf.2.1
  have hF : FI (rdF I (gB G + 21)) Y := h.2.1.1.1
  have hW : WayL C P (gB G + 21) (rdF I (gB G + 21)) := h.2.2.1.1.1
  have hs6 := hF.2.2.2.2.2.2.1
  have e10 : I (gB G + 21) 10 = rdF I (gB G + 21) 6 := at_10 I (gB G + 21)
  have eS : (rdY G I L).1.1 6 = rdF I (gB G + 21) 6 := rfl
  have hw4 := hBI.2.2.2.1
  have e3 : I (gB G + 12) 3 = ((rdB I (gB G + 12) 90).toNat : Int) := by rw [ab_3 I (gB G + 12)]; omega
  have e3' : I (gB G + 12) 3 = rdB I (gB G + 12) 90 := ab_3 I (gB G + 12)
  have eS3 : (rdY G I L).1.2.1 90 = rdB I (gB G + 12) 90 := rfl
  have hno := nearO_in (rdB I (gB G + 12)) (rdB I (gB G + 12) 90).toNat
  refine en_I (by decide +kernel) (Nat.le_of_ble_eq_true rfl) ?_
  change Wd _ _ _ _ _ _ _ _ 0 [some _, none] [] _ _ _ _
  refine r_aload_n (pc := 0) dX11_bears_0 rfl ?_
  refine r_getP (pc := 1) dX11_bears_1 frX11_40 (by assumption) (by assumption) ?_
  refine r_getP (pc := 4) dX11_bears_4 frX11_191 (by assumption) (by assumption) ?_
  refine i_V0ix (pc := 7) okX0_nearestPair inX0_nearestPair selX0_nearestPair q963 dX11_bears_7 (by assumption) rfl (by decide) (Nat.le_of_ble_eq_true rfl) (sX0_nearestPair (n := (rdB I (gB G + 12) 90).toNat)) ?_
  refine r_istore_n (pc := 10) dX11_bears_10 (by decide) ?_
  refine r_iload_n (pc := 11) dX11_bears_11 rfl ?_
  refine r_iconst (pc := 12) dX11_bears_12 ?_
  refine r_icmp_ne (pc := 13) 20 dX11_bears_13 (by decide) (by omega) (by omega) (fun h13 => ?_) (fun h13 => ?_)
  · skip
    refine r_iconst (pc := 20) dX11_bears_20 ?_
    refine r_iload_n (pc := 21) dX11_bears_21 rfl ?_
    refine r_iconst (pc := 22) dX11_bears_22 ?_
    refine r_isub (pc := 23) dX11_bears_23 ?_
    refine r_max (pc := 24) q585 stamthmax inimth codmthmax (by decide) (Nat.le_of_ble_eq_true rfl) dX11_bears_24 (by omega) (by omega) ?_
    refine r_iconst (pc := 27) dX11_bears_27 ?_
    refine r_idiv (pc := 28) dX11_bears_28 (by omega) (by omega) (by omega) (by omega) ?_
    refine t_iret (pc := 29) dX11_bears_29 rfl rfl ?_
    unfold bearsS
    rw [if_neg (show ¬ nearO (rdY G I L).1.2.1 ((rdY G I L).1.2.1 90).toNat = -1 from h13)]
    exact QY_same h
  · skip
    refine r_iconst (pc := 16) dX11_bears_16 ?_
    refine r_goto (pc := 17) 29 dX11_bears_17 (by decide) ?_
    refine t_iret (pc := 29) dX11_bears_29 rfl rfl ?_
    unfold bearsS
    rw [if_pos (show nearO (rdY G I L).1.2.1 ((rdY G I L).1.2.1 90).toNat = -1 from h13)]
    exact QY_same h

