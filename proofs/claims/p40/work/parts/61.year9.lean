/-! undo -/
theorem UI_go {S : LSt} (h : UI S) (hl : 0 ≤ S.2.2.1 ∧ S.2.2.1 < 6) : UI (goL S) := by
  intro j hj
  have hj2 : (j : Int) < min 6 (S.2.2.2.1 + 1) := hj
  have e6 : (goL S).1 6 = S.1 6 := fx_go S.1 false (k := 6) (by unfold fixd; omega) (by omega)
  have e0 : (goL S).1 0 = S.1 0 := fx_go S.1 false (k := 0) (by unfold fixd; omega) (by omega)
  have es : slotL (goL S) j = (((S.2.2.1 + 1) % 6 + 12 - j) % 6).toNat := rfl
  rw [e6, e0]
  show (if ((slotL (goL S) j : Nat) : Int) = (S.2.2.1 + 1) % 6 then setF (S.2.2.2.2 (slotL (goL S) j)) S.1 else S.2.2.2.2 (slotL (goL S) j)) 6 ≤ _ ∧ (if ((slotL (goL S) j : Nat) : Int) = (S.2.2.1 + 1) % 6 then setF (S.2.2.2.2 (slotL (goL S) j)) S.1 else S.2.2.2.2 (slotL (goL S) j)) 0 = _
  by_cases hj0 : j = 0
  · subst hj0
    rw [if_pos (by rw [es]; omega), setF_app, if_pos (by omega), setF_app, if_pos (by omega)]
    exact ⟨Int.le_refl _, rfl⟩
  · rw [if_neg (by rw [es]; omega)]
    have e : slotL (goL S) j = slotL S (j - 1) := by
      rw [es]; unfold slotL; omega
    rw [e]
    exact h (j - 1) (by omega)
theorem UI_back {S : LSt} (h : UI S) (hl : 0 ≤ S.2.2.1 ∧ S.2.2.1 < 6) (hu : S.2.2.2.1 ≤ 6) : UI (backL S) := by
  intro j hj
  have hj2 : (j : Int) < S.2.2.2.1 - 1 := hj
  have e6 : (backL S).1 6 = S.1 6 := by show bakF S.1 (S.2.2.2.2 S.2.2.1.toNat) 6 = _; rw [bakF_app, if_neg (by omega)]
  have e0 : (backL S).1 0 = S.1 0 := by show bakF S.1 (S.2.2.2.2 S.2.2.1.toNat) 0 = _; rw [bakF_app, if_neg (by omega)]
  have es : slotL (backL S) j = (((S.2.2.1 + 5) % 6 + 12 - j) % 6).toNat := rfl
  have e : slotL (backL S) j = slotL S (j + 1) := by
    rw [es]; unfold slotL; omega
  rw [e6, e0, e]
  exact h (j + 1) (by omega)
def undoS (S : YS) : Int × YS := if 0 < S.1.2.2.2.1 then (1, yLu S (backL S.1)) else (-3, yN S)
theorem sX11_undo {G : WG} {C : CF} {I : MI} {P : MP} {L : ML} {Y : Int} (h : YI G C I P Y := by assumption) : SX11_undo G [.ref (gB G)] C I P L (NI C (QY G (undoS (rdY G I L)).1 (undoS (rdY G I L)).2 Y C)) := by
  have hyl := h.1
  obtain ⟨hK, hK4, hP0, hP1, hP2, hP3, hP4, hP5, hP6, hr, hl, -⟩ := id hyl
  have hKl := hl.2.1
  have hPb : P (gB G + 11) 1 = some (gB G + 12) := hl.2.2.2.2.1
  have hb : BooksL G C P (gB G + 12) := hl.2.2.2.2.2.2.1
  have hKb := hb.2.1
  have hBI : BI (rdB I (gB G + 12)) := h.2.1.1.2.1
  have hPf : P (gB G + 11) 0 = some (gB G + 21) := hl.2.2.2.1
  have hf : FarmL G C P (gB G + 21) := hl.2.2.2.2.2.2.2.1
  have hKf := hf.2.1
  have hF : FI (rdF I (gB G + 21)) Y := h.2.1.1.1
  have hW : WayL C P (gB G + 21) (rdF I (gB G + 21)) := h.2.2.1.1.1
  have hs6 := hF.2.2.2.2.2.2.1
  have e10 : I (gB G + 21) 10 = rdF I (gB G + 21) 6 := at_10 I (gB G + 21)
  have eS : (rdY G I L).1.1 6 = rdF I (gB G + 21) 6 := rfl
  have hLI := h.2.1.1
  have hWs := h.2.2.1.1
  have hU := h.2.2.2.1.1
  have hl3 : 0 ≤ I (gB G + 11) 3 ∧ I (gB G + 11) 3 < 6 := hLI.2.2.1
  have hl4 : 0 ≤ I (gB G + 11) 4 ∧ I (gB G + 11) 4 ≤ 6 := hLI.2.2.2.1
  by_cases hu : 0 < I (gB G + 11) 4
  · have hle : (rdL I (gB G + 11)).2.2.2.2 (rdL I (gB G + 11)).2.2.1.toNat 6 ≤ (rdL I (gB G + 11)).1 6 := by
      have h0 := (hU 0 (by show ((0 : Nat) : Int) < I (gB G + 11) 4; omega)).1
      have e : slotL (rdL I (gB G + 11)) 0 = (rdL I (gB G + 11)).2.2.1.toNat := by
        show ((I (gB G + 11) 3 + 12 - ((0 : Nat) : Int)) % 6).toNat = (I (gB G + 11) 3).toNat
        omega
      rwa [e] at h0
    have hS : undoS (rdY G I L) = (1, yLu (rdY G I L) (backL (rdL I (gB G + 11)))) := if_pos hu
    rw [hS]
    refine en_I (by decide +kernel) (Nat.le_of_ble_eq_true rfl) ?_
    change Wd _ _ _ _ _ _ _ _ 0 [some _] [] _ _ _ _
    refine r_aload_n (pc := 0) dX11_undo_0 rfl ?_
    refine r_getP (pc := 1) dX11_undo_1 frX11_40 (by assumption) (by assumption) ?_
    refine i_V0ig (pc := 4) okX5_goBack inX5_goBack selX5_goBack q509 dX11_undo_4 (by assumption) rfl (by decide) (Nat.le_of_ble_eq_true rfl) (sX5_goBack1 (Y := Y)) (fun r3 I3 P3 L3 hq3 => ?_)
    obtain ⟨rfl, hT3, hO3, hQ3, hl3', hW3, rfl⟩ := hq3
    refine r_if_eq (pc := 7) 14 dX11_undo_7 (by decide) (by omega) (fun h7 => ?_) (fun h7 => ?_)
    · exfalso; omega
    · skip
      refine r_iconst (pc := 10) dX11_undo_10 ?_
      refine r_goto (pc := 11) 18 dX11_undo_11 (by decide) ?_
      refine t_iret (pc := 18) dX11_undo_18 rfl rfl ?_
      exact ⟨rfl, rdY_lump hO3 hT3, h.lump hO3 hQ3 hl3' (by rw [hT3]; exact LI_back hLI hu) (by rw [hT3]; exact hW3) (by rw [hT3]; exact UI_back hU hl3 hl4.2) (Int.le_refl Y)⟩
  · have hu0 : I (gB G + 11) 4 = 0 := by omega
    have hS : undoS (rdY G I L) = (-3, yN (rdY G I L)) := if_neg hu
    rw [hS]
    refine en_I (by decide +kernel) (Nat.le_of_ble_eq_true rfl) ?_
    change Wd _ _ _ _ _ _ _ _ 0 [some _] [] _ _ _ _
    refine r_aload_n (pc := 0) dX11_undo_0 rfl ?_
    refine r_getP (pc := 1) dX11_undo_1 frX11_40 (by assumption) (by assumption) ?_
    refine i_V0ix (pc := 4) okX5_goBack inX5_goBack selX5_goBack q509 dX11_undo_4 (by assumption) rfl (by decide) (Nat.le_of_ble_eq_true rfl) (sX5_goBack0 (Y := Y)) ?_
    refine r_if_eq (pc := 7) 14 dX11_undo_7 (by decide) (by omega) (fun h7 => ?_) (fun h7 => ?_)
    · skip
      refine r_aload_n (pc := 14) dX11_undo_14 rfl ?_
      refine i_V0ix (pc := 15) okX11_refuseNo inX11_refuseNo selX11_refuseNo q517 dX11_undo_15 (by assumption) rfl (by decide) (Nat.le_of_ble_eq_true rfl) (sX11_refuseNo) ?_
      refine t_iret (pc := 18) dX11_undo_18 rfl rfl ?_
      exact QY_no h
    · exfalso; omega


