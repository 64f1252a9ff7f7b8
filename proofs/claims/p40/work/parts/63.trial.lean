/-! want, held, teachers -/
theorem YI.one {G : WG} {C : CF} {I I1 : MI} {P P1 : MP} {Y : Int} (h : YI G C I P Y) (hi : outF I I1 (gB G + 331 + 6)) (hp : outP P P1 (gB G + 331 + 6)) (hT : TF C I1 P1 (gB G + 331 + 6)) : YI G C I1 P1 Y := by
  obtain ⟨⟨y1, y2, y3, y4, y5, y6, y7, y8, y9, yr, yl1, yl2, yl3, yl4, yt, yk⟩, ⟨l1, l2, l3, l4⟩, ⟨w1, w2, w3, w4⟩, hU, ht, ⟨n, hn⟩, hto, hs0, hg0, hx, hst, hlo⟩ := h
  have e1 : rdL I1 (gB G + 11) = rdL I (gB G + 11) := rdL_eqr (fun x hx => hi x (by omega))
  have e2 : rdL I1 (gB G + 91) = rdL I (gB G + 91) := rdL_eqr (fun x hx => hi x (by omega))
  have e3 : rdL I1 (gB G + 171) = rdL I (gB G + 171) := rdL_eqr (fun x hx => hi x (by omega))
  have e4 : rdL I1 (gB G + 251) = rdL I (gB G + 251) := rdL_eqr (fun x hx => hi x (by omega))
  have e0 : P1 (gB G) = P (gB G) := hp _ (by omega)
  have e5 : P1 (gB G + 5) = P (gB G + 5) := hp _ (by omega)
  unfold YI
  rw [e1, e2, e3, e4]
  refine ⟨⟨y1, y2, by rw [e0]; exact y3, by rw [e0]; exact y4, by rw [e0]; exact y5, by rw [e0]; exact y6, by rw [e0]; exact y7, by rw [e0]; exact y8, by rw [e0]; exact y9, yr.eqp (hp _ (by omega)), yl1.eqp (fun x hx => hp x (by omega)), yl2.eqp (fun x hx => hp x (by omega)), yl3.eqp (fun x hx => hp x (by omega)), yl4.eqp (fun x hx => hp x (by omega)), yt.p hp (Or.inr (Or.inr ⟨0, by omega, by omega⟩)), yk.1, by rw [e5]; exact yk.2⟩, ⟨l1, l2, l3, l4⟩, ⟨w1.eqp (fun x hx => hp x (by omega)), w2.eqp (fun x hx => hp x (by omega)), w3.eqp (fun x hx => hp x (by omega)), w4.eqp (fun x hx => hp x (by omega))⟩, hU, fun i h1 h2 => ?_, ⟨n, by rw [hi _ (by omega)]; exact hn.1, hn.2.1, by rw [hi _ (by omega)]; exact hn.2.2⟩, by rw [hi _ (by omega)]; exact hto, by rw [hi _ (by omega)]; exact hs0, by rw [hi _ (by omega)]; exact hg0, TxtL_eqr hx hlo (fun x hx => hi x (by omega)), StatL_eqr hst hlo (fun x hx => hi x (by omega)), hlo⟩
  by_cases hi0 : i = 0
  · subst hi0; exact hT
  · exact TF_f (ht i h1 h2) hi hp (by omega)
theorem QY_mk {G : WG} {C : CF} {I1 : MI} {P1 : MP} {L1 : ML} {Y r e : Int} {S : YS} (a : r = e) (b : rdY G I1 L1 = S) (c : YI G C I1 P1 Y) : QY G (e, S).1 (e, S).2 Y C r I1 P1 L1 := ⟨a, b, c⟩
theorem rdY_one {G : WG} {I I1 : MI} {L : ML} (hi : outF I I1 (gB G + 331 + 6)) : rdY G I1 L = rdY G I L := by
  unfold rdY
  rw [rdL_eqr (I1 := I1) (I := I) (l := gB G + 11) (fun x hx => hi x (by omega)), rdL_eqr (I1 := I1) (I := I) (l := gB G + 171) (fun x hx => hi x (by omega)), rdL_eqr (I1 := I1) (I := I) (l := gB G + 251) (fun x hx => hi x (by omega)), hi (gB G + 2) (by omega), hi (gB G + 1) (by omega), hi (gB G) (by omega)]

def wantS (S : YS) (n : Int) : Int × YS := if 0 ≤ n ∧ n ≤ 200 then (firstF (trF S.1.1) n.toNat, S) else (-2, yB S)
theorem sX11_want {G : WG} {C : CF} {I : MI} {P : MP} {L : ML} {Y n : Int} (h : YI G C I P Y := by assumption) (hY : Y ≤ 900000 := by omega) (hn' : iR n := by omega) : SX11_want G [.ref (gB G), .int (zI n)] C I P L (NI C (QY G (wantS (rdY G I L) n).1 (wantS (rdY G I L) n).2 Y C)) := by
  have hyl := h.1
  obtain ⟨hK, hK4, hP0, hP1, hP2, hP3, hP4, hP5, hP6, hr, hl, hl2, hl3, hl4, htr, hKd⟩ := id hyl
  have hKl := hl.2.1
  have hKt := htr.2.1
  have hPf : P (gB G + 11) 0 = some (gB G + 21) := hl.2.2.2.1
  have hf : FarmL G C P (gB G + 21) := hl.2.2.2.2.2.2.2.1
  have hKf := hf.2.1
  have hF : FI (rdF I (gB G + 21)) Y := h.2.1.1.1
  have hW : WayL C P (gB G + 21) (rdF I (gB G + 21)) := h.2.2.1.1.1
  have hT0 : TF C I P (gB G + 331 + 6) := h.2.2.2.2.1 0 (by omega) (by omega)
  have hg : 0 ≤ I (gB G + 21) 6 ∧ I (gB G + 21) 6 ≤ 9999 := hF.2.2.1
  have eS2 : (rdY G I L).1.1 = rdF I (gB G + 21) := rfl
  refine en_I (by decide +kernel) (Nat.le_of_ble_eq_true rfl) ?_
  change Wd _ _ _ _ _ _ _ _ 0 [some _, some _] [] _ _ _ _
  refine r_iload_n (pc := 0) dX11_want_0 rfl ?_
  refine r_iconst (pc := 1) dX11_want_1 ?_
  refine r_sipush (pc := 2) dX11_want_2 (by decide) ?_
  refine i_S3ix (pc := 5) okX11_within staX11_within q317 dX11_want_5 (by decide) (Nat.le_of_ble_eq_true rfl) (sX11_within) ?_
  refine r_if_ne (pc := 8) 18 dX11_want_8 (by decide) (by first | omega | (split <;> decide)) (fun h8 => ?_) (fun h8 => ?_)
  · skip
    have h1 := wt h8
    refine r_aload_n (pc := 18) dX11_want_18 rfl ?_
    refine r_getP (pc := 19) dX11_want_19 frX11_56 (by assumption) (by assumption) ?_
    refine r_aload_n (pc := 22) dX11_want_22 rfl ?_
    refine r_getP (pc := 23) dX11_want_23 frX11_40 (by assumption) (by assumption) ?_
    refine r_getP (pc := 26) dX11_want_26 frX11_72 (by assumption) (by assumption) ?_
    refine r_iload_n (pc := 29) dX11_want_29 rfl ?_
    refine r_aload_n (pc := 30) dX11_want_30 rfl ?_
    refine r_getP (pc := 31) dX11_want_31 frX11_40 (by assumption) (by assumption) ?_
    refine r_getP (pc := 34) dX11_want_34 frX11_72 (by assumption) (by assumption) ?_
    refine r_getI (pc := 37) dX11_want_37 frX11_165 (by assumption) ?_
    refine i_V3ig (pc := 40) okX10_firstWant inX10_firstWant selX10_firstWant q565 dX11_want_40 (by assumption) rfl (by decide) (Nat.le_of_ble_eq_true rfl) (sX10_firstWant (Y := Y) (n := n.toNat)) (fun r3 I3 P3 L3 hq3 => ?_)
    obtain ⟨hr3, hO3, hOP3, hTF3, rfl⟩ := hq3
    have eg : up (trF (rdF I (gB G + 21))) 2 (I (gB G + 21) 6) = trF (rdF I (gB G + 21)) := by
      have e : I (gB G + 21) 6 = trF (rdF I (gB G + 21)) 2 := by rw [trF_a _ (by omega) (sizeF_le hF).1]; rfl
      rw [e, up_self]
    rw [eg] at hr3
    refine t_iret (pc := 43) dX11_want_43 rfl rfl ?_
    unfold wantS
    rw [if_pos h1]
    have hr4 : r3 = firstF (trF (rdY G I L).1.1) n.toNat := by rw [eS2]; exact hr3
    exact QY_mk hr4 (rdY_one hO3) (h.one hO3 hOP3 hTF3)
  · skip
    refine r_aload_n (pc := 11) dX11_want_11 rfl ?_
    refine r_bipush (pc := 12) dX11_want_12 (by decide) ?_
    refine i_V1ix (pc := 14) okX11_refuseBad inX11_refuseBad selX11_refuseBad q320 dX11_want_14 (by assumption) rfl (by decide) (Nat.le_of_ble_eq_true rfl) (sX11_refuseBad) ?_
    refine t_iret (pc := 17) dX11_want_17 rfl rfl ?_
    unfold wantS
    rw [if_neg (wf h8)]
    exact QY_bad h

def heldS (S : YS) (n : Int) : Int × YS := if 0 ≤ n ∧ n ≤ 200 then (heldF (trF S.1.1) n.toNat, S) else (-10, yB S)
theorem sX11_held {G : WG} {C : CF} {I : MI} {P : MP} {L : ML} {Y n : Int} (h : YI G C I P Y := by assumption) (hY : Y ≤ 900000 := by omega) (hn' : iR n := by omega) : SX11_held G [.ref (gB G), .int (zI n)] C I P L (NI C (QY G (heldS (rdY G I L) n).1 (heldS (rdY G I L) n).2 Y C)) := by
  have hyl := h.1
  obtain ⟨hK, hK4, hP0, hP1, hP2, hP3, hP4, hP5, hP6, hr, hl, hl2, hl3, hl4, htr, hKd⟩ := id hyl
  have hKl := hl.2.1
  have hKt := htr.2.1
  have hPf : P (gB G + 11) 0 = some (gB G + 21) := hl.2.2.2.1
  have hf : FarmL G C P (gB G + 21) := hl.2.2.2.2.2.2.2.1
  have hKf := hf.2.1
  have hF : FI (rdF I (gB G + 21)) Y := h.2.1.1.1
  have hW : WayL C P (gB G + 21) (rdF I (gB G + 21)) := h.2.2.1.1.1
  have hT0 : TF C I P (gB G + 331 + 6) := h.2.2.2.2.1 0 (by omega) (by omega)
  have hg : 0 ≤ I (gB G + 21) 6 ∧ I (gB G + 21) 6 ≤ 9999 := hF.2.2.1
  have eS2 : (rdY G I L).1.1 = rdF I (gB G + 21) := rfl
  refine en_I (by decide +kernel) (Nat.le_of_ble_eq_true rfl) ?_
  change Wd _ _ _ _ _ _ _ _ 0 [some _, some _] [] _ _ _ _
  refine r_iload_n (pc := 0) dX11_held_0 rfl ?_
  refine r_iconst (pc := 1) dX11_held_1 ?_
  refine r_sipush (pc := 2) dX11_held_2 (by decide) ?_
  refine i_S3ix (pc := 5) okX11_within staX11_within q317 dX11_held_5 (by decide) (Nat.le_of_ble_eq_true rfl) (sX11_within) ?_
  refine r_if_ne (pc := 8) 18 dX11_held_8 (by decide) (by first | omega | (split <;> decide)) (fun h8 => ?_) (fun h8 => ?_)
  · skip
    have h1 := wt h8
    refine r_aload_n (pc := 18) dX11_held_18 rfl ?_
    refine r_getP (pc := 19) dX11_held_19 frX11_56 (by assumption) (by assumption) ?_
    refine r_aload_n (pc := 22) dX11_held_22 rfl ?_
    refine r_getP (pc := 23) dX11_held_23 frX11_40 (by assumption) (by assumption) ?_
    refine r_getP (pc := 26) dX11_held_26 frX11_72 (by assumption) (by assumption) ?_
    refine r_iload_n (pc := 29) dX11_held_29 rfl ?_
    refine i_V2ig (pc := 30) okX10_leastHeld inX10_leastHeld selX10_leastHeld q573 dX11_held_30 (by assumption) rfl (by decide) (Nat.le_of_ble_eq_true rfl) (sX10_leastHeld (Y := Y) (n := n.toNat)) (fun r3 I3 P3 L3 hq3 => ?_)
    obtain ⟨hr3, hO3, hOP3, hTF3, rfl⟩ := hq3
    refine t_iret (pc := 33) dX11_held_33 rfl rfl ?_
    unfold heldS
    rw [if_pos h1]
    have hr4 : r3 = heldF (trF (rdY G I L).1.1) n.toNat := by rw [eS2]; exact hr3
    exact QY_mk hr4 (rdY_one hO3) (h.one hO3 hOP3 hTF3)
  · skip
    refine r_aload_n (pc := 11) dX11_held_11 rfl ?_
    refine r_bipush (pc := 12) dX11_held_12 (by decide) ?_
    refine i_V1ix (pc := 14) okX11_refuseBad inX11_refuseBad selX11_refuseBad q320 dX11_held_14 (by assumption) rfl (by decide) (Nat.le_of_ble_eq_true rfl) (sX11_refuseBad) ?_
    refine t_iret (pc := 17) dX11_held_17 rfl rfl ?_
    unfold heldS
    rw [if_neg (wf h8)]
    exact QY_bad h

def teachersS (S : YS) (n : Int) : Int × YS := if 0 ≤ n ∧ n ≤ 60 then (fewT (trF S.1.1) n.toNat (2 ^ sizeF S.1.1), S) else (-2, yB S)
theorem sX11_teachers {G : WG} {C : CF} {I : MI} {P : MP} {L : ML} {Y n : Int} (h : YI G C I P Y := by assumption) (hY : Y ≤ 900000 := by omega) (hn' : iR n := by omega) : SX11_teachers G [.ref (gB G), .int (zI n)] C I P L (NI C (QY G (teachersS (rdY G I L) n).1 (teachersS (rdY G I L) n).2 Y C)) := by
  have hyl := h.1
  obtain ⟨hK, hK4, hP0, hP1, hP2, hP3, hP4, hP5, hP6, hr, hl, hl2, hl3, hl4, htr, hKd⟩ := id hyl
  have hKl := hl.2.1
  have hKt := htr.2.1
  have hPf : P (gB G + 11) 0 = some (gB G + 21) := hl.2.2.2.1
  have hf : FarmL G C P (gB G + 21) := hl.2.2.2.2.2.2.2.1
  have hKf := hf.2.1
  have hF : FI (rdF I (gB G + 21)) Y := h.2.1.1.1
  have hW : WayL C P (gB G + 21) (rdF I (gB G + 21)) := h.2.2.1.1.1
  have hT0 : TF C I P (gB G + 331 + 6) := h.2.2.2.2.1 0 (by omega) (by omega)
  have hg : 0 ≤ I (gB G + 21) 6 ∧ I (gB G + 21) 6 ≤ 9999 := hF.2.2.1
  have eS2 : (rdY G I L).1.1 = rdF I (gB G + 21) := rfl
  refine en_I (by decide +kernel) (Nat.le_of_ble_eq_true rfl) ?_
  change Wd _ _ _ _ _ _ _ _ 0 [some _, some _] [] _ _ _ _
  refine r_iload_n (pc := 0) dX11_teachers_0 rfl ?_
  refine r_iconst (pc := 1) dX11_teachers_1 ?_
  refine r_bipush (pc := 2) dX11_teachers_2 (by decide) ?_
  refine i_S3ix (pc := 4) okX11_within staX11_within q317 dX11_teachers_4 (by decide) (Nat.le_of_ble_eq_true rfl) (sX11_within) ?_
  refine r_if_ne (pc := 7) 17 dX11_teachers_7 (by decide) (by first | omega | (split <;> decide)) (fun h7 => ?_) (fun h7 => ?_)
  · skip
    have h1 := wt h7
    refine r_aload_n (pc := 17) dX11_teachers_17 rfl ?_
    refine r_getP (pc := 18) dX11_teachers_18 frX11_56 (by assumption) (by assumption) ?_
    refine r_aload_n (pc := 21) dX11_teachers_21 rfl ?_
    refine r_getP (pc := 22) dX11_teachers_22 frX11_40 (by assumption) (by assumption) ?_
    refine r_getP (pc := 25) dX11_teachers_25 frX11_72 (by assumption) (by assumption) ?_
    refine r_iload_n (pc := 28) dX11_teachers_28 rfl ?_
    refine i_V2ig (pc := 29) okX10_fewestTeachers inX10_fewestTeachers selX10_fewestTeachers q582 dX11_teachers_29 (by assumption) rfl (by decide) (Nat.le_of_ble_eq_true rfl) (sX10_fewestTeachers (Y := Y) (n := n.toNat)) (fun r3 I3 P3 L3 hq3 => ?_)
    obtain ⟨hr3, hO3, hOP3, hTF3, rfl⟩ := hq3
    refine t_iret (pc := 32) dX11_teachers_32 rfl rfl ?_
    unfold teachersS
    rw [if_pos h1]
    have hr4 : r3 = fewT (trF (rdY G I L).1.1) n.toNat (2 ^ sizeF (rdY G I L).1.1) := by rw [eS2]; exact hr3
    exact QY_mk hr4 (rdY_one hO3) (h.one hO3 hOP3 hTF3)
  · skip
    refine r_aload_n (pc := 10) dX11_teachers_10 rfl ?_
    refine r_bipush (pc := 11) dX11_teachers_11 (by decide) ?_
    refine i_V1ix (pc := 13) okX11_refuseBad inX11_refuseBad selX11_refuseBad q320 dX11_teachers_13 (by assumption) rfl (by decide) (Nat.le_of_ble_eq_true rfl) (sX11_refuseBad) ?_
    refine t_iret (pc := 16) dX11_teachers_16 rfl rfl ?_
    unfold teachersS
    rw [if_neg (wf h7)]
    exact QY_bad h


