/-! the trials: a farm on which is tried what would be -/
def TF (C : CF) (I : MI) (P : MP) (a : Nat) : Prop := WayL C P a (rdF I a) ∧ FI (rdF I a) 1000000
def TrialsL (G : WG) (C : CF) (P : MP) (t : Nat) : Prop := gB G + 6 ≤ t ∧ C.1 t = some (.inl 10) ∧ C.1 (t + 1) = some (.inr (2, 8)) ∧ C.1 (t + 2) = some (.inr (0, 5)) ∧ C.1 (t + 3) = some (.inr (0, 5)) ∧ C.1 (t + 4) = some (.inr (0, 64)) ∧ C.1 (t + 5) = some (.inr (0, 64)) ∧ P t 0 = some (t + 1) ∧ P t 1 = some (t + 2) ∧ P t 2 = some (t + 3) ∧ P t 3 = some (t + 4) ∧ P t 4 = some (t + 5) ∧ P t 5 = some (t + 6) ∧ FarmL G C P (t + 6) ∧ ∀ i, i < 8 → FarmL G C P (t + 16 + 10 * i) ∧ P (t + 1) i = some (t + 16 + 10 * i)
theorem TrialsL.p {G : WG} {C : CF} {P P1 : MP} {t a : Nat} (h : TrialsL G C P t) (ho : outP P P1 a) (ha : a + 10 ≤ t ∨ t + 96 ≤ a ∨ ∃ j, j < 9 ∧ a = t + 6 + 10 * j) : TrialsL G C P1 t := by
  obtain ⟨h0, hK, hK1, hK2, hK3, hK4, hK5, hP0, hP1, hP2, hP3, hP4, hP5, hf, hp⟩ := h
  have et : P1 t = P t := by
    rcases ha with ha | ha | ⟨j, h1, rfl⟩ <;> exact ho t (by omega)
  have e1 : P1 (t + 1) = P (t + 1) := by
    rcases ha with ha | ha | ⟨j, h1, rfl⟩ <;> exact ho _ (by omega)
  have hfr : ∀ j', j' < 9 → FarmL G C P (t + 6 + 10 * j') → FarmL G C P1 (t + 6 + 10 * j') := by
    intro j' h1' hF
    refine hF.p ho ?_
    rcases ha with ha | ha | ⟨j, h1, rfl⟩ <;> omega
  refine ⟨h0, hK, hK1, hK2, hK3, hK4, hK5, by rw [et]; exact hP0, by rw [et]; exact hP1, by rw [et]; exact hP2, by rw [et]; exact hP3, by rw [et]; exact hP4, by rw [et]; exact hP5, hfr 0 (by omega) hf, fun i hi => ⟨?_, by rw [e1]; exact (hp i hi).2⟩⟩
  have e : t + 16 + 10 * i = t + 6 + 10 * (1 + i) := by omega
  rw [e]
  refine hfr (1 + i) (by omega) ?_
  rw [← e]
  exact (hp i hi).1
theorem FI_le {F : Nat → Int} {Y Z : Int} (h : FI F Y) (hl : Y ≤ Z) : FI F Z := ⟨h.1, ⟨h.2.1.1, by have := h.2.1.2; omega⟩, h.2.2⟩
/-- what a trial on the one farm leaves -/
def QT (t : Nat) (e : Int) (I : MI) (C : CF) (P : MP) (L : ML) : Int → MI → MP → ML → Prop := fun r I1 P1 L1 => r = e ∧ outF I I1 (t + 6) ∧ outP P P1 (t + 6) ∧ TF C I1 P1 (t + 6) ∧ L = L1
theorem sX10_firstWant {G : WG} {C : CF} {I : MI} {P : MP} {L : ML} {t a n : Nat} {Y x g : Int} (ht : TrialsL G C P t := by assumption) (hT : TF C I P (t + 6) := by assumption) (hF : FarmL G C P a := by assumption) (hI : FI (rdF I a) Y := by assumption) (hW : WayL C P a (rdF I a) := by assumption) (hat : a + 10 ≤ t ∨ t + 96 ≤ a := by omega) (hY : Y ≤ 999000 := by omega) (hx : x = (n : Int) := by first | rfl | omega) (hn : n ≤ 200 := by omega) (hg : 0 ≤ g ∧ g ≤ 9999 := by omega) : SX10_firstWant G [.ref t, .ref a, .int (zI x), .int (zI g)] C I P L (NI C (QT t (firstF (up (trF (rdF I a)) 2 g) n) I C P L)) := by
  subst hx
  obtain ⟨h0, hK, hK1, hK2, hK3, hK4, hK5, hP0, hP1, hP2, hP3, hP4, hP5, hf, hp⟩ := id ht
  obtain ⟨hs6, hsz⟩ := sizeF_le hI
  have hK6 := hf.2.1
  have hW6 := hT.1
  generalize hq : QT t (firstF (up (trF (rdF I a)) 2 g) n) I C P L = q
  refine en_I (by decide +kernel) (Nat.le_of_ble_eq_true rfl) ?_
  change Wd _ _ _ _ _ _ _ _ 0 [some _, some _, some _, some _, none] [] _ _ _ _
  have loop : ∀ (F0 : Nat → Int) (P2 : MP), TrialsL G C P2 t → outP P P2 (t + 6) → sizeF F0 ≤ 6 → trF F0 = up (trF (rdF I a)) 2 g → (∀ k, wants (trF F0) k = decide (0 < wantF (runF F0 k) false)) → ∀ (d f : Nat) (i : Int) (I1 : MI), f + d = n → i = (f : Int) → rdF I1 (t + 6) = runF F0 f → outF I I1 (t + 6) → FI (runF F0 f) (Y + f) → WayL C P2 (t + 6) (runF F0 f) → (∀ k, k < f → wants (trF F0) k = false) → Wd G yX10_firstWant cX10_firstWant 5 (some .int) 5 (C.2.1 + 0, C.2.2 + 0) (NI C q) 19 [some (.ref t), some (.ref a), some (.int (zI (n : Int))), some (.int (zI g)), some (.int (zI i))] [] C I1 P2 L := by
    intro F0 P2 ht2 hOP2 hs0 hT0 hw0
    obtain ⟨-, -, -, -, -, -, -, -, -, -, -, -, zP5, zf, -⟩ := id ht2
    intro d
    induction d using Nat.strongRecOn with
    | _ d ih =>
      intro f i I1 hd hi hR hO hFI1 hW1 hno
      rw [← hR] at hFI1 hW1
      have hwr := wantF_in hFI1 false
      have hwf : wants (trF F0) f = decide (0 < wantF (rdF I1 (t + 6)) false) := by rw [hw0, hR]
      refine r_iload (pc := 19) dX10_firstWant_19 rfl ?_
      refine r_iload_n (pc := 21) dX10_firstWant_21 rfl ?_
      refine r_icmp_ge (pc := 22) 45 dX10_firstWant_22 (by decide) (by omega) (by omega) (fun h22 => ?_) (fun h22 => ?_)
      · skip
        refine r_iconst (pc := 45) dX10_firstWant_45 ?_
        refine t_iret (pc := 46) dX10_firstWant_46 rfl rfl ?_
        subst hq; exact ⟨by rw [firstF, ← hT0, fst_no n (fun k hk => hno k (by omega))], hO, hOP2, ⟨hW1, FI_le hFI1 (by omega)⟩, rfl⟩
      · skip
        refine r_aload_n (pc := 25) dX10_firstWant_25 rfl ?_
        refine r_getP (pc := 26) dX10_firstWant_26 frX10_33 (by assumption) (by assumption) ?_
        refine r_iconst (pc := 29) dX10_firstWant_29 ?_
        refine i_V1ig (pc := 30) okX2_goBy inX2_goBy selX2_goBy q553 dX10_firstWant_30 (by assumption) rfl (by decide) (Nat.le_of_ble_eq_true rfl) (sX2_goBy (bad := false)) (fun r3 I3 P3 L3 hq3 => ?_)
        obtain ⟨rfl, hT3, hO3, rfl, rfl⟩ := hq3
        have hTF3 : TF C I3 P2 (t + 6) := ⟨by rw [hT3]; exact way_fx hW1 (fun k hk => fx_go _ _ (by unfold fixd; omega) (by omega)), by rw [hT3]; exact FI_le (FI_go hFI1 false) (by omega)⟩
        have hFI3 := FI_go hFI1 false
        rw [hR] at hT3 hFI3
        refine r_if_le (pc := 33) 39 dX10_firstWant_33 (by decide) (by omega) (fun h33 => ?_) (fun h33 => ?_)
        · skip
          refine r_iinc (pc := 39) dX10_firstWant_39 rfl ?_
          refine r_goto (pc := 42) 19 dX10_firstWant_42 (by decide) ?_
          refine ih (d - 1) (by omega) (f + 1) _ _ (by omega) (by omega) hT3 (hO.tr hO3) (FI_le hFI3 (by omega)) (by rw [runF, ← hT3]; exact hTF3.1) (fun k hk => ?_)
          by_cases hkf : k = f
          · rw [hkf, hwf]; exact decide_eq_false (by omega)
          · exact hno k (by omega)
        · skip
          refine r_iload (pc := 36) dX10_firstWant_36 rfl ?_
          refine t_iret (pc := 38) dX10_firstWant_38 rfl rfl ?_
          subst hq; exact ⟨by rw [hi, firstF, ← hT0, fst_at (by rw [hwf]; exact decide_eq_true (by omega)) hno n (by omega)], hO.tr hO3, hOP2, hTF3, rfl⟩
  refine r_aload_n (pc := 0) dX10_firstWant_0 rfl ?_
  refine r_getP (pc := 1) dX10_firstWant_1 frX10_33 (by assumption) (by assumption) ?_
  refine r_aload_n (pc := 4) dX10_firstWant_4 rfl ?_
  refine i_V1vg (pc := 5) okX2_setTo inX2_setTo selX2_setTo q548 dX10_firstWant_5 (by assumption) rfl (by decide) (Nat.le_of_ble_eq_true rfl) (sX2_setTo) (fun I2 P2 L2 hq2 => ?_)
  obtain ⟨hT2, hO2, hOP2, hW2, rfl⟩ := hq2
  have ht2 : TrialsL G C P2 t := ht.p hOP2 (Or.inr (Or.inr ⟨0, by omega, by omega⟩))
  obtain ⟨-, -, -, -, -, -, -, -, -, -, -, -, zP5, zf, -⟩ := id ht2
  refine r_aload_n (pc := 8) dX10_firstWant_8 rfl ?_
  refine r_getP (pc := 9) dX10_firstWant_9 frX10_33 (by assumption) (by assumption) ?_
  refine r_iload_n (pc := 12) dX10_firstWant_12 rfl ?_
  refine r_putI (pc := 13) dX10_firstWant_13 fwX10_49 (by assumption) (by omega) ?_
  refine r_iconst (pc := 16) dX10_firstWant_16 ?_
  refine r_istore (pc := 17) dX10_firstWant_17 (by decide) ?_
  generalize hI3 : u2 I2 (t + 6) 6 g = I3
  generalize hF0 : up (setF (rdF I (t + 6)) (rdF I a)) 2 g = F0
  have e3 : rdF I3 (t + 6) = F0 := by rw [← hI3, rd_6, hT2, hF0]
  have hO3 : outF I I3 (t + 6) := by rw [← hI3]; exact hO2.u
  have hFI0 : FI F0 Y := by rw [← hF0]; exact FI_st (FI_set hT.2 hI) (by omega) (by omega) (by omega)
  have hW0 : WayL C P2 (t + 6) F0 := by rw [← hF0]; exact way_fx hW2 (fun f hf => up_n _ _ (by omega))
  have hs0 : sizeF F0 ≤ 6 := (sizeF_le hFI0).1
  have hT0 : trF F0 = up (trF (rdF I a)) 2 g := by rw [← hF0, trF_up _ _ (by omega), trF_set]
  have hw0 : ∀ k, wants (trF F0) k = decide (0 < wantF (runF F0 k) false) := by
    intro k
    unfold wants
    rw [← trF_run hs0, trF_want (by rw [sz_run]; exact hs0)]
  exact loop F0 P2 ht2 hOP2 hs0 hT0 hw0 n 0 _ I3 (by omega) (by omega) e3 hO3 (by rw [runF]; exact FI_le hFI0 (by omega)) hW0 (fun k hk => by omega)


