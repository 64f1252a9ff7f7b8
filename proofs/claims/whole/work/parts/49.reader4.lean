/-! what an item tells is laid into the lump -/
def addS (item : Int) (t : Nat → Int) (F B : Nat → Int) : (Nat → Int) × (Nat → Int) :=
  if item = 0 then (begF F (t 0), B) else if item = 1 then (up F (2 + (t 0).toNat) (t 1), B) else if item = 2 then (setlF F (sizeF F) (t 0) (t 1) (t 2), B) else if item = 3 then (up F (10 + 4 * (t 0).toNat) (t 1), B) else (F, debtB B (B 33).toNat (t 0) (t 1) (t 2))
def okS (item : Int) (t : Nat → Int) (F B : Nat → Int) : Prop := (item = 1 → 0 ≤ t 0 ∧ t 0 ≤ 3) ∧ (item = 2 → 0 ≤ t 0 ∧ t 0 ≤ 4 ∧ F 6 < 6) ∧ (item = 3 → 0 ≤ t 0 ∧ t 0 < F 6) ∧ (item = 4 → B 33 < 8)
def QA (l : Nat) (F B : Nat → Int) (I : MI) (C : CF) (P : MP) (L : ML) : MI → MP → ML → Prop := fun I1 P1 L1 => rdF I1 (l + 10) = F ∧ rdB I1 (l + 1) = B ∧ (∀ x, (x ≤ l ∨ l + 20 ≤ x ∨ x = l + 9) → I1 x = I x) ∧ outP P P1 (l + 10) ∧ WayL C P1 (l + 10) F ∧ L = L1
theorem sX7_addTo {G : WG} {C : CF} {I : MI} {P : MP} {L : ML} {r l : Nat} {item Y : Int} (hr : ReadL G C P r := by assumption) (hl : LumpL G C P l := by assumption) (hW : WayL C P (l + 10) (rdF I (l + 10)) := by assumption) (hKd : KindL G C P := by assumption) (hF : FI (rdF I (l + 10)) Y := by assumption) (hB : BI (rdB I (l + 1)) := by assumption) (hit : 0 ≤ item ∧ item ≤ 4 := by omega) (hok : okS item (I (r + 2)) (rdF I (l + 10)) (rdB I (l + 1)) := by assumption) : SX7_addTo G [.ref r, .ref l, .int (zI item)] C I P L (NV C (QA l (addS item (I (r + 2)) (rdF I (l + 10)) (rdB I (l + 1))).1 (addS item (I (r + 2)) (rdF I (l + 10)) (rdB I (l + 1))).2 I C P L)) := by
  obtain ⟨rB, rK, rK1, rK2, rP0, rP1⟩ := id hr
  obtain ⟨h0, hK, hK9, hP0, hP1, hP2, hb, hf, hp⟩ := id hl
  obtain ⟨k1, k2, k3, k4⟩ := id hok
  obtain ⟨hs6, hsz⟩ := sizeF_le hF
  have hB33 := hB.2.1
  have e1 : I (l + 1) 1 = ((rdB I (l + 1) 33).toNat : Int) := by rw [ab_1 I (l + 1)]; omega
  have e10 : I (l + 10) 10 = rdF I (l + 10) 6 := at_10 I (l + 10)
  have hK10 := hf.2.1
  have hK1 := hb.2.1
  have hKf : ∀ f, f < 6 → C.1 (l + 10 + 4 + f) = some (.inl 1) := fun f h => (hf.2.2.2.2.2.2.2.2.2 f h).1
  generalize hq : QA l (addS item (I (r + 2)) (rdF I (l + 10)) (rdB I (l + 1))).1 (addS item (I (r + 2)) (rdF I (l + 10)) (rdB I (l + 1))).2 I C P L = q
  refine en_V (by decide +kernel) (Nat.le_of_ble_eq_true rfl) ?_
  change Wd _ _ _ _ _ _ _ _ 0 [some _, some _, some _, none, none, none] [] _ _ _ _
  refine r_aload_n (pc := 0) dX7_addTo_0 rfl ?_
  refine r_getA (pc := 1) dX7_addTo_1 frX7_15 (by assumption) (by assumption) ?_
  refine r_iconst (pc := 4) dX7_addTo_4 ?_
  refine i_SN2ix (pc := 5) okX11_at staX11_at nwX7_71 dX7_addTo_5 (by decide) (Nat.le_of_ble_eq_true rfl) (sX11_at (n := 3) (j := 0)) ?_
  refine r_istore_n (pc := 8) dX7_addTo_8 (by decide) ?_
  refine r_aload_n (pc := 9) dX7_addTo_9 rfl ?_
  refine r_getA (pc := 10) dX7_addTo_10 frX7_15 (by assumption) (by assumption) ?_
  refine r_iconst (pc := 13) dX7_addTo_13 ?_
  refine i_SN2ix (pc := 14) okX11_at staX11_at nwX7_71 dX7_addTo_14 (by decide) (Nat.le_of_ble_eq_true rfl) (sX11_at (n := 3) (j := 1)) ?_
  refine r_istore (pc := 17) dX7_addTo_17 (by decide) ?_
  refine r_aload_n (pc := 19) dX7_addTo_19 rfl ?_
  refine r_getA (pc := 20) dX7_addTo_20 frX7_15 (by assumption) (by assumption) ?_
  refine r_iconst (pc := 23) dX7_addTo_23 ?_
  refine i_SN2ix (pc := 24) okX11_at staX11_at nwX7_71 dX7_addTo_24 (by decide) (Nat.le_of_ble_eq_true rfl) (sX11_at (n := 3) (j := 2)) ?_
  refine r_istore (pc := 27) dX7_addTo_27 (by decide) ?_
  refine r_iload_n (pc := 29) dX7_addTo_29 rfl ?_
  rcases (show item = 0 ∨ item = 1 ∨ item = 2 ∨ item = 3 ∨ item = 4 ∨ (item < 0 ∨ 4 < item) by omega) with h30 | h30 | h30 | h30 | h30 | h30
  · skip
    refine r_tsIn (pc := 30) 64 dX7_addTo_30 (by omega) (by omega) (by omega) (by rw [h30]; rfl) (by decide) ?_
    refine r_aload_n (pc := 64) dX7_addTo_64 rfl ?_
    refine r_getP (pc := 65) dX7_addTo_65 frX7_52 (by assumption) (by assumption) ?_
    refine r_iload_n (pc := 68) dX7_addTo_68 rfl ?_
    refine i_V1vg (pc := 69) okX2_begin inX2_begin selX2_begin q513 dX7_addTo_69 (by assumption) rfl (by decide) (Nat.le_of_ble_eq_true rfl) (sX2_begin) (fun I3 P3 L3 hq3 => ?_)
    obtain ⟨hT3, hO3, rfl, rfl⟩ := hq3
    refine r_goto (pc := 72) 136 dX7_addTo_72 (by decide) ?_
    refine t_vret (pc := 136) dX7_addTo_136 rfl ?_
    subst h30; subst hq
    refine ⟨hT3, rdB_oF hO3, fun x hx => hO3 x (by omega), outP.rf P _, ?_, rfl⟩
    intro g hg
    have e : begF (rdF I (l + 10)) (I (r + 2) 0) (7 + 4 * g) = rdF I (l + 10) (7 + 4 * g) := by simp only [begF]; rw [if_neg (by omega), if_neg (by omega)]
    show ∃ w, _ ∧ C.1 w = some (.inl (kcls (begF (rdF I (l + 10)) (I (r + 2) 0) (7 + 4 * g)).toNat))
    rw [e]
    exact hW g hg
  · skip
    refine r_tsIn (pc := 30) 75 dX7_addTo_30 (by omega) (by omega) (by omega) (by rw [h30]; rfl) (by decide) ?_
    refine r_aload_n (pc := 75) dX7_addTo_75 rfl ?_
    refine r_getP (pc := 76) dX7_addTo_76 frX7_52 (by assumption) (by assumption) ?_
    refine r_iload_n (pc := 79) dX7_addTo_79 rfl ?_
    refine r_iload (pc := 80) dX7_addTo_80 rfl ?_
    have hk1 := k1 (by omega)
    refine i_V2vg (pc := 82) okX2_restock inX2_restock selX2_restock q514 dX7_addTo_82 (by assumption) rfl (by decide) (Nat.le_of_ble_eq_true rfl) (sX2_restock (w := (I (r + 2) 0).toNat)) (fun I3 P3 L3 hq3 => ?_)
    obtain ⟨hT3, hO3, rfl, rfl⟩ := hq3
    refine r_goto (pc := 85) 136 dX7_addTo_85 (by decide) ?_
    refine t_vret (pc := 136) dX7_addTo_136 rfl ?_
    subst h30; subst hq
    refine ⟨hT3, rdB_oF hO3, fun x hx => hO3 x (by omega), outP.rf P _, ?_, rfl⟩
    exact way_fx hW (fun g hg => up_n _ _ (by omega))
  · skip
    refine r_tsIn (pc := 30) 88 dX7_addTo_30 (by omega) (by omega) (by omega) (by rw [h30]; rfl) (by decide) ?_
    refine r_aload_n (pc := 88) dX7_addTo_88 rfl ?_
    refine r_getP (pc := 89) dX7_addTo_89 frX7_52 (by assumption) (by assumption) ?_
    refine r_iload_n (pc := 92) dX7_addTo_92 rfl ?_
    refine r_iload (pc := 93) dX7_addTo_93 rfl ?_
    refine r_iload (pc := 95) dX7_addTo_95 rfl ?_
    have hk2 := k2 (by omega)
    have hlt := hk2.2.2
    refine i_V3ig (pc := 97) okX2_settle inX2_settle selX2_settle q515 dX7_addTo_97 (by assumption) rfl (by decide) (Nat.le_of_ble_eq_true rfl) (sX2_settle (Y := Y)) (fun r3 I3 P3 L3 hq3 => ?_)
    obtain ⟨hr3, hT3, hO3, hOP3, hW3, rfl⟩ := hq3
    refine r_pop (pc := 100) dX7_addTo_100 rfl ?_
    refine r_goto (pc := 101) 136 dX7_addTo_101 (by decide) ?_
    refine t_vret (pc := 136) dX7_addTo_136 rfl ?_
    subst h30; subst hq
    exact ⟨hT3, rdB_oF hO3, fun x hx => hO3 x (by omega), hOP3, hW3, rfl⟩
  · skip
    refine r_tsIn (pc := 30) 104 dX7_addTo_30 (by omega) (by omega) (by omega) (by rw [h30]; rfl) (by decide) ?_
    refine r_aload_n (pc := 104) dX7_addTo_104 rfl ?_
    refine r_getP (pc := 105) dX7_addTo_105 frX7_52 (by assumption) (by assumption) ?_
    refine r_iload_n (pc := 108) dX7_addTo_108 rfl ?_
    have hk3 := k3 (by omega)
    have hKm := hKf (I (r + 2) 0).toNat (by omega)
    refine i_V1rx (pc := 109) okX2_member inX2_member selX2_member q516 dX7_addTo_109 (by assumption) rfl (by decide) (Nat.le_of_ble_eq_true rfl) (sX2_member (f := (I (r + 2) 0).toNat)) ?_
    refine r_iload (pc := 112) dX7_addTo_112 rfl ?_
    refine r_putI (pc := 114) dX7_addTo_114 fwX7_131 (by assumption) (by omega) ?_
    refine r_goto (pc := 117) 136 dX7_addTo_117 (by decide) ?_
    refine t_vret (pc := 136) dX7_addTo_136 rfl ?_
    subst h30; subst hq
    refine ⟨?_, rdB_u2 _ (by omega), fun x hx => ?_, outP.rf P _, ?_, rfl⟩
    · exact rd_j _ _ _ (by omega)
    · funext k; rw [u2_a _ _ _ _ (by omega)]
    · refine way_fx hW (fun g hg => up_n _ _ (by omega))
  · skip
    refine r_tsIn (pc := 30) 120 dX7_addTo_30 (by omega) (by omega) (by omega) (by rw [h30]; rfl) (by decide) ?_
    refine r_aload_n (pc := 120) dX7_addTo_120 rfl ?_
    refine r_getP (pc := 121) dX7_addTo_121 frX7_59 (by assumption) (by assumption) ?_
    refine r_iload_n (pc := 124) dX7_addTo_124 rfl ?_
    refine r_iload (pc := 125) dX7_addTo_125 rfl ?_
    refine r_iload (pc := 127) dX7_addTo_127 rfl ?_
    have hk4 := k4 (by omega)
    refine i_V3ig (pc := 129) okX0_addDebt inX0_addDebt selX0_addDebt q517 dX7_addTo_129 (by assumption) rfl (by decide) (Nat.le_of_ble_eq_true rfl) (sX0_addDebt (n := (rdB I (l + 1) 33).toNat)) (fun r3 I3 P3 L3 hq3 => ?_)
    obtain ⟨hr3, hT3, hO3, rfl, rfl⟩ := hq3
    refine r_pop (pc := 132) dX7_addTo_132 rfl ?_
    refine r_goto (pc := 133) 136 dX7_addTo_133 (by decide) ?_
    refine t_vret (pc := 136) dX7_addTo_136 rfl ?_
    subst h30; subst hq
    refine ⟨rdF_oB hO3, hT3, fun x hx => hO3 x (by omega), outP.rf P _, ?_, rfl⟩
    exact hW
  · skip
    refine r_tsOut (pc := 30) 136 dX7_addTo_30 (by omega) h30 (by decide) ?_
    refine t_vret (pc := 136) dX7_addTo_136 rfl ?_
    exfalso; omega

