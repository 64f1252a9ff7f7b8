/-! who must teach -/
def keepF (T : Nat → Int) (n s : Nat) : Bool := knowF (runF (teachOf T s (sizeF T)) n) (sizeF T)
def fewT (T : Nat → Int) (n : Nat) : Nat → Int
  | 0 => -1
  | s + 1 => if (fewT T n s = -1 ∨ pop s < pop (fewT T n s).toNat) ∧ keepF T n s = true then (s : Int) else fewT T n s
theorem fewT_in (T : Nat → Int) (n : Nat) : ∀ s : Nat, -1 ≤ fewT T n s ∧ fewT T n s < s := by
  intro s
  induction s with
  | zero => simp [fewT]
  | succ s ih => unfold fewT; split <;> omega
theorem sX10_keepsMemory {G : WG} {C : CF} {I : MI} {P : MP} {L : ML} {t a n s : Nat} {Y x y : Int} (ht : TrialsL G C P t := by assumption) (hT : TF C I P (t + 6) := by assumption) (hF : FarmL G C P a := by assumption) (hI : FI (rdF I a) Y := by assumption) (hW : WayL C P a (rdF I a) := by assumption) (hat : a + 10 ≤ t ∨ t + 96 ≤ a := by omega) (hY : Y ≤ 999000 := by omega) (hx : x = (n : Int) := by first | rfl | omega) (hn : n ≤ 200 := by omega) (hy : y = (s : Int) := by first | rfl | omega) (hs : s < 2147483648 := by omega) : SX10_keepsMemory G [.ref t, .ref a, .int (zI x), .int (zI y)] C I P L (NI C (QT t (if keepF (trF (rdF I a)) n s then 1 else 0) I C P L)) := by
  subst hx hy
  obtain ⟨h0, hK, hK1, hK2, hK3, hK4, hK5, hP0, hP1, hP2, hP3, hP4, hP5, hf, hp⟩ := id ht
  obtain ⟨hs6, hsz⟩ := sizeF_le hI
  have hK6 := hf.2.1
  have hW6 := hT.1
  generalize hq : QT t (if keepF (trF (rdF I a)) n s then 1 else 0) I C P L = q
  refine en_I (by decide +kernel) (Nat.le_of_ble_eq_true rfl) ?_
  change Wd _ _ _ _ _ _ _ _ 0 [some _, some _, some _, some _, none] [] _ _ _ _
  have loop : ∀ (F0 : Nat → Int) (P2 : MP), TrialsL G C P2 t → outP P P2 (t + 6) → sizeF F0 = sizeF (rdF I a) → trF F0 = teachOf (trF (rdF I a)) s (sizeF (rdF I a)) → ∀ (d f : Nat) (i : Int) (I1 : MI), f + d = n → i = (f : Int) → rdF I1 (t + 6) = runF F0 f → outF I I1 (t + 6) → FI (runF F0 f) (Y + f) → WayL C P2 (t + 6) (runF F0 f) → Wd G yX10_keepsMemory cX10_keepsMemory 5 (some .boolean) 5 (C.2.1 + 0, C.2.2 + 0) (NI C q) 19 [some (.ref t), some (.ref a), some (.int (zI (n : Int))), some (.int (zI (s : Int))), some (.int (zI i))] [] C I1 P2 L := by
    intro F0 P2 ht2 hOP2 hs0 hT0
    obtain ⟨-, -, -, -, -, -, -, -, -, -, -, -, zP5, zf, -⟩ := id ht2
    intro d
    induction d using Nat.strongRecOn with
    | _ d ih =>
      intro f i I1 hd hi hR hO hFI1 hW1
      have hTF1 : TF C I1 P2 (t + 6) := ⟨by rw [hR]; exact hW1, by rw [hR]; exact FI_le hFI1 (by omega)⟩
      have hFr : FI (rdF I1 (t + 6)) (Y + f) := by rw [hR]; exact hFI1
      have hWr : WayL C P2 (t + 6) (rdF I1 (t + 6)) := hTF1.1
      refine r_iload (pc := 19) dX10_keepsMemory_19 rfl ?_
      refine r_iload_n (pc := 21) dX10_keepsMemory_21 rfl ?_
      refine r_icmp_ge (pc := 22) 40 dX10_keepsMemory_22 (by decide) (by first | omega | exact iR_b _) (by first | omega | exact iR_b _) (fun h22 => ?_) (fun h22 => ?_)
      · skip
        refine r_aload_n (pc := 40) dX10_keepsMemory_40 rfl ?_
        refine r_getP (pc := 41) dX10_keepsMemory_41 frX10_33 (by assumption) (by assumption) ?_
        refine i_V0ix (pc := 44) okX2_allKnow inX2_allKnow selX2_allKnow q600 dX10_keepsMemory_44 (by assumption) rfl (by decide) (Nat.le_of_ble_eq_true rfl) (sX2_allKnow) ?_
        refine t_iret (pc := 47) dX10_keepsMemory_47 rfl (nar_z (by split <;> simp)) ?_
        subst hq
        refine ⟨?_, hO, hOP2, hTF1, rfl⟩
        have e : knowF (rdF I1 (t + 6)) (sizeF (rdF I1 (t + 6))) = keepF (trF (rdF I a)) n s := by
          have hfn : f = n := by omega
          rw [hR, hfn, sz_run, hs0]
          unfold keepF
          have hss : sizeF (runF F0 n) = sizeF (rdF I a) := by rw [sz_run, hs0]
          rw [trF_sz, ← hT0, ← trF_run (by rw [hs0]; exact hs6), trF, hss, tr_know hs6 _ _ (Nat.le_refl _)]
        rw [e]
      · skip
        refine r_aload_n (pc := 25) dX10_keepsMemory_25 rfl ?_
        refine r_getP (pc := 26) dX10_keepsMemory_26 frX10_33 (by assumption) (by assumption) ?_
        refine r_iconst (pc := 29) dX10_keepsMemory_29 ?_
        refine i_V1ig (pc := 30) okX2_goBy inX2_goBy selX2_goBy q553 dX10_keepsMemory_30 (by assumption) rfl (by decide) (Nat.le_of_ble_eq_true rfl) (sX2_goBy (bad := false)) (fun r3 I3 P3 L3 hq3 => ?_)
        obtain ⟨rfl, hT3, hO3, rfl, rfl⟩ := hq3
        rw [hR] at hT3
        refine r_pop (pc := 33) dX10_keepsMemory_33 rfl ?_
        refine r_iinc (pc := 34) dX10_keepsMemory_34 rfl ?_
        refine r_goto (pc := 37) 19 dX10_keepsMemory_37 (by decide) ?_
        refine ih (d - 1) (by omega) (f + 1) _ _ (by omega) (by omega) hT3 (hO.tr hO3) (FI_le (FI_go hFI1 false) (by omega)) ?_
        exact way_fx hW1 (fun k hk => fx_go _ _ (by unfold fixd; omega) (by omega))
  refine r_aload_n (pc := 0) dX10_keepsMemory_0 rfl ?_
  refine r_getP (pc := 1) dX10_keepsMemory_1 frX10_33 (by assumption) (by assumption) ?_
  refine r_aload_n (pc := 4) dX10_keepsMemory_4 rfl ?_
  refine i_V1vg (pc := 5) okX2_setTo inX2_setTo selX2_setTo q548 dX10_keepsMemory_5 (by assumption) rfl (by decide) (Nat.le_of_ble_eq_true rfl) (sX2_setTo) (fun I2 P2 L2 hq2 => ?_)
  obtain ⟨hT2, hO2, hOP2, hW2, rfl⟩ := hq2
  have ht2 : TrialsL G C P2 t := ht.p hOP2 (Or.inr (Or.inr ⟨0, by omega, by omega⟩))
  obtain ⟨-, -, -, -, -, -, -, -, -, -, -, -, zP5, zf, -⟩ := id ht2
  have hFI2 : FI (rdF I2 (t + 6)) Y := by rw [hT2]; exact FI_set hT.2 hI
  have hz2 : sizeF (rdF I2 (t + 6)) = sizeF (rdF I a) := by rw [hT2, sz_set]
  refine r_aload_n (pc := 8) dX10_keepsMemory_8 rfl ?_
  refine r_getP (pc := 9) dX10_keepsMemory_9 frX10_33 (by assumption) (by assumption) ?_
  refine r_iload_n (pc := 12) dX10_keepsMemory_12 rfl ?_
  refine i_V1vg (pc := 13) okX2_onlyTeach inX2_onlyTeach selX2_onlyTeach q596 dX10_keepsMemory_13 (by assumption) rfl (by decide) (Nat.le_of_ble_eq_true rfl) (sX2_onlyTeach (s := s)) (fun I3 P3 L3 hq3 => ?_)
  obtain ⟨hT3, hO3, rfl, rfl⟩ := hq3
  refine r_iconst (pc := 16) dX10_keepsMemory_16 ?_
  refine r_istore (pc := 17) dX10_keepsMemory_17 (by decide) ?_
  refine loop (teachOf (rdF I2 (t + 6)) s (sizeF (rdF I2 (t + 6)))) P2 ht2 hOP2 ?_ ?_ n 0 _ _ (by omega) (by omega) hT3 (hO2.tr hO3) ?_ ?_
  · rw [sz_same (fx_tof _ s (by omega) _), hz2]
  · rw [trF_tof (by rw [hz2]; exact hs6), hz2, hT2, trF_set]
  · exact FI_le (FI_tof hFI2 s _ (sizeF_le hFI2).1) (by omega)
  · refine way_fx ?_ (fun k hk => fx_tof _ s (by omega) _)
    rw [hT2]; exact hW2
theorem sX10_fewestTeachers {G : WG} {C : CF} {I : MI} {P : MP} {L : ML} {t a n : Nat} {Y x : Int} (ht : TrialsL G C P t := by assumption) (hT : TF C I P (t + 6) := by assumption) (hF : FarmL G C P a := by assumption) (hI : FI (rdF I a) Y := by assumption) (hW : WayL C P a (rdF I a) := by assumption) (hat : a + 10 ≤ t ∨ t + 96 ≤ a := by omega) (hY : Y ≤ 999000 := by omega) (hx : x = (n : Int) := by first | rfl | omega) (hn : n ≤ 200 := by omega) : SX10_fewestTeachers G [.ref t, .ref a, .int (zI x)] C I P L (NI C (QT t (fewT (trF (rdF I a)) n (2 ^ sizeF (rdF I a))) I C P L)) := by
  subst hx
  obtain ⟨h0, hK, -⟩ := id ht
  obtain ⟨hs6, hsz⟩ := sizeF_le hI
  obtain ⟨hall, h64⟩ := all_lt hs6
  have h2k : 1 ≤ 2 ^ sizeF (rdF I a) := Nat.one_le_two_pow
  have hA2 := b_shl1 (k := sizeF (rdF I a)) (by omega)
  generalize hA : 2 ^ sizeF (rdF I a) = A at *
  generalize hq : QT t (fewT (trF (rdF I a)) n A) I C P L = q
  have hKa := hF.2.1
  refine en_I (by decide +kernel) (Nat.le_of_ble_eq_true rfl) ?_
  change Wd _ _ _ _ _ _ _ _ 0 [some _, some _, some _, none, none] [] _ _ _ _
  have loop : ∀ (d s : Nat) (i m : Int) (I1 : MI) (P1 : MP), s + d = A → i = (s : Int) → m = fewT (trF (rdF I a)) n s → outF I I1 (t + 6) → outP P P1 (t + 6) → TF C I1 P1 (t + 6) → Wd G yX10_fewestTeachers cX10_fewestTeachers 5 (some .int) 6 (C.2.1 + 0, C.2.2 + 0) (NI C q) 5 [some (.ref t), some (.ref a), some (.int (zI (n : Int))), some (.int (zI m)), some (.int (zI i))] [] C I1 P1 L := by
    intro d
    induction d using Nat.strongRecOn with
    | _ d ih =>
      intro s i m I1 P1 hd hi hm hO hOP hTF
      have ht1 : TrialsL G C P1 t := ht.p hOP (Or.inr (Or.inr ⟨0, by omega, by omega⟩))
      have hF1 : FarmL G C P1 a := hF.p hOP (by omega)
      have eA : rdF I1 a = rdF I a := rdF_out hO (by omega)
      have hI1 : FI (rdF I1 a) Y := by rw [eA]; exact hI
      have hW1 : WayL C P1 a (rdF I1 a) := by rw [eA]; exact hW.p hOP (by omega)
      have hmr := fewT_in (trF (rdF I a)) n s
      have p1 := pop_le s
      have hsh : b_shl 1 (I1 a 10) = (A : Int) := by rw [at_10 I1 a, eA, ← hsz]; exact hA2
      have hbm : ∃ w : Nat, bcE m = w ∧ w ≤ 32 ∧ ((s < 64 ∧ pop s < w) ↔ (s < 64 ∧ (m = -1 ∨ pop s < pop m.toNat))) := by
        by_cases hm1 : m = -1
        · exact ⟨32, by rw [hm1, bcE_all]; rfl, by omega, by constructor <;> (intro h; exact ⟨h.1, by omega⟩)⟩
        · have h2 : m = ((m.toNat : Nat) : Int) := by omega
          have p2 := pop_le m.toNat
          refine ⟨pop m.toNat, ?_, by omega, ?_⟩
          · have := bcE_ok ⟨m.toNat, by omega⟩
            rw [← h2] at this; exact this
          · constructor <;> (intro h; exact ⟨h.1, by omega⟩)
      obtain ⟨w, hw1, hw2, hw3⟩ := hbm
      refine r_iload (pc := 5) dX10_fewestTeachers_5 rfl ?_
      refine r_iconst (pc := 7) dX10_fewestTeachers_7 ?_
      refine r_aload_n (pc := 8) dX10_fewestTeachers_8 rfl ?_
      refine r_getI (pc := 9) dX10_fewestTeachers_9 frX10_94 (by assumption) ?_
      refine r_ishl (pc := 12) dX10_fewestTeachers_12 ?_
      rw [hsh]
      refine r_icmp_ge (pc := 13) 48 dX10_fewestTeachers_13 (by decide) (by first | omega | exact iR_b _) (by first | omega | exact iR_b _) (fun h13 => ?_) (fun h13 => ?_)
      · skip
        refine r_iload_n (pc := 48) dX10_fewestTeachers_48 rfl ?_
        refine t_iret (pc := 49) dX10_fewestTeachers_49 rfl rfl ?_
        subst hq; exact ⟨by rw [hm, show s = A by omega], hO, hOP, hTF, rfl⟩
      · skip
        refine r_iload (pc := 16) dX10_fewestTeachers_16 rfl ?_
        refine i_S1ix (pc := 18) okJ6_bitCount_0f7a4 staJ6_bitCount_0f7a4 q586 dX10_fewestTeachers_18 (by decide) (Nat.le_of_ble_eq_true rfl) (sBit (n := s)) ?_
        refine r_iload_n (pc := 21) dX10_fewestTeachers_21 rfl ?_
        refine i_S1ix (pc := 22) okJ6_bitCount_0f7a4 staJ6_bitCount_0f7a4 q586 dX10_fewestTeachers_22 (by decide) (Nat.le_of_ble_eq_true rfl) (sJ6_bitCount) ?_
        rw [hw1]
        refine r_icmp_ge (pc := 25) 42 dX10_fewestTeachers_25 (by decide) (by first | omega | exact iR_b _) (by first | omega | exact iR_b _) (fun h25 => ?_) (fun h25 => ?_)
        · skip
          refine r_iinc (pc := 42) dX10_fewestTeachers_42 rfl ?_
          refine r_goto (pc := 45) 5 dX10_fewestTeachers_45 (by decide) ?_
          exact ih (d - 1) (by omega) (s + 1) _ _ _ _ (by omega) (by omega) (by rw [fewT, if_neg (fun hz => by have := (hw3.mpr ⟨by omega, by rw [hm]; exact hz.1⟩).2; omega)]; exact hm) hO hOP hTF
        · skip
          refine r_aload_n (pc := 28) dX10_fewestTeachers_28 rfl ?_
          refine r_aload_n (pc := 29) dX10_fewestTeachers_29 rfl ?_
          refine r_iload_n (pc := 30) dX10_fewestTeachers_30 rfl ?_
          refine r_iload (pc := 31) dX10_fewestTeachers_31 rfl ?_
          refine i_V3ig (pc := 33) okX10_keepsMemory inX10_keepsMemory selX10_keepsMemory q592 dX10_fewestTeachers_33 (by assumption) rfl (by decide) (Nat.le_of_ble_eq_true rfl) (sX10_keepsMemory (n := n) (s := s) (Y := Y)) (fun r3 I3 P3 L3 hq3 => ?_)
          obtain ⟨hr3, hO3, hOP3, hTF3, rfl⟩ := hq3
          rw [eA] at hr3
          rw [hr3]
          refine r_if_eq (pc := 36) 42 dX10_fewestTeachers_36 (by decide) (by first | omega | exact iR_b _) (fun h36 => ?_) (fun h36 => ?_)
          · skip
            refine r_iinc (pc := 42) dX10_fewestTeachers_42 rfl ?_
            refine r_goto (pc := 45) 5 dX10_fewestTeachers_45 (by decide) ?_
            exact ih (d - 1) (by omega) (s + 1) _ _ _ _ (by omega) (by omega) (by rw [fewT, if_neg (fun hz => by rw [hz.2] at h36; simp at h36)]; exact hm) (hO.tr hO3) (hOP.tr hOP3) hTF3
          · skip
            refine r_iload (pc := 39) dX10_fewestTeachers_39 rfl ?_
            refine r_istore_n (pc := 41) dX10_fewestTeachers_41 (by decide) ?_
            refine r_iinc (pc := 42) dX10_fewestTeachers_42 rfl ?_
            refine r_goto (pc := 45) 5 dX10_fewestTeachers_45 (by decide) ?_
            exact ih (d - 1) (by omega) (s + 1) _ _ _ _ (by omega) (by omega) (by rw [fewT, if_pos ⟨by have := (hw3.mp ⟨by omega, by omega⟩).2; rw [← hm]; exact this, by cases hz : keepF (trF (rdF I a)) n s <;> simp_all⟩]; exact hi) (hO.tr hO3) (hOP.tr hOP3) hTF3
  refine r_iconst (pc := 0) dX10_fewestTeachers_0 ?_
  refine r_istore_n (pc := 1) dX10_fewestTeachers_1 (by decide) ?_
  refine r_iconst (pc := 2) dX10_fewestTeachers_2 ?_
  refine r_istore (pc := 3) dX10_fewestTeachers_3 (by decide) ?_
  exact loop A 0 _ _ _ _ (by omega) (by omega) rfl (outF.rf I _) (outP.rf P _) hT


