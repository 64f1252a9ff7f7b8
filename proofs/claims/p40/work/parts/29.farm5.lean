/-! one farm set to another -/
def outP (P P' : MP) (a : Nat) : Prop := ∀ x, (x < a + 4 ∨ a + 10 ≤ x) → P' x = P x
theorem outP.rf (P : MP) (a : Nat) : outP P P a := fun _ _ => rfl
theorem outP.tr {P P1 P2 : MP} {a : Nat} (h : outP P P1 a) (h2 : outP P1 P2 a) : outP P P2 a := fun x hx => (h2 x hx).trans (h x hx)
theorem outP.u {P P1 : MP} {a b k : Nat} {v : Option Nat} (h : outP P P1 a) (hb : a + 4 ≤ b := by omega) (hb2 : b < a + 10 := by omega) : outP P (u2 P1 b k v) a := by
  intro x hx
  funext j
  unfold u2
  rw [if_neg (by omega)]
  exact congrFun (h x hx) j
theorem FarmL.p {G : WG} {C : CF} {P P1 : MP} {a b : Nat} (h : FarmL G C P b) (ho : outP P P1 a) (hb : b + 1 < a + 4 ∨ a + 10 ≤ b := by omega) : FarmL G C P1 b := by
  obtain ⟨hB, hK, hK1, hK2, hK3, hP0, hP1, hP2, hP3, hfam⟩ := h
  have e0 : P1 b = P b := ho b (by omega)
  have e1 : P1 (b + 1) = P (b + 1) := ho (b + 1) (by omega)
  refine ⟨hB, hK, hK1, hK2, hK3, ?_, ?_, ?_, ?_, ?_⟩
  · rw [e0]; exact hP0
  · rw [e0]; exact hP1
  · rw [e0]; exact hP2
  · rw [e0]; exact hP3
  · rw [e1]; exact hfam
theorem KindL.p {G : WG} {C : CF} {P P1 : MP} {a : Nat} (h : KindL G C P) (ho : outP P P1 a) (hb : gB G + 5 < a + 4 := by omega) : KindL G C P1 := by
  have e0 : P1 (gB G + 5) = P (gB G + 5) := ho _ (by omega)
  refine ⟨h.1, ?_⟩
  rw [e0]; exact h.2
theorem WayL.p {C : CF} {P P1 : MP} {a b : Nat} {F : Nat → Int} (h : WayL C P b F) (ho : outP P P1 a) (hb : b + 10 ≤ a ∨ a + 10 ≤ b := by omega) : WayL C P1 b F := by
  intro f hf
  rw [ho (b + 4 + f) (by omega)]
  exact h f hf
theorem rdF_out {I I1 : MI} {a b : Nat} (h : outF I I1 a) (hb : b + 10 ≤ a ∨ a + 10 ≤ b := by omega) : rdF I1 b = rdF I b := by
  funext k
  rw [rd_def, rd_def]
  split
  · rw [h b (by omega)]
  · split
    · rw [h _ (by omega)]
    · rw [h b (by omega)]
/-- what a farm's method leaves that changes families' ways too -/
def QP (a : Nat) (I : MI) (F : Nat → Int) (C : CF) (P : MP) (L : ML) : MI → MP → ML → Prop := fun I1 P1 L1 => rdF I1 a = F ∧ outF I I1 a ∧ outP P P1 a ∧ WayL C P1 a F ∧ L = L1
def QPI (a : Nat) (e : Int) (I : MI) (F : Nat → Int) (C : CF) (P : MP) (L : ML) : Int → MI → MP → ML → Prop := fun r I1 P1 L1 => r = e ∧ rdF I1 a = F ∧ outF I I1 a ∧ outP P P1 a ∧ WayL C P1 a F ∧ L = L1
theorem sX1_setTo {G : WG} {C : CF} {I : MI} {P : MP} {L : ML} {x y w : Nat} (hB : gB G ≤ x := by omega) (hK : C.1 x = some (.inl 1) := by assumption) (hK2 : C.1 y = some (.inl 1) := by assumption) (hP : P y 0 = some w := by assumption) : SX1_setTo G [.ref x, .ref y] C I P L (NV C (XV (u2 (u2 (u2 (u2 I x 1 (I y 1)) x 2 (I y 2)) x 3 (I y 3)) x 4 (I y 4)) (u2 P x 0 (some w)) L)) := by
  refine en_V (by decide +kernel) (Nat.le_of_ble_eq_true rfl) ?_
  change Wd _ _ _ _ _ _ _ _ 0 [some _, some _] [] _ _ _ _
  refine r_aload_n (pc := 0) dX1_setTo_0 rfl ?_
  refine r_aload_n (pc := 1) dX1_setTo_1 rfl ?_
  refine r_getP (pc := 2) dX1_setTo_2 frX1_7 (by assumption) (by assumption) ?_
  refine r_putP (pc := 5) dX1_setTo_5 fwX1_7 (by assumption) (by omega) ?_
  refine r_aload_n (pc := 8) dX1_setTo_8 rfl ?_
  refine r_aload_n (pc := 9) dX1_setTo_9 rfl ?_
  refine r_getI (pc := 10) dX1_setTo_10 frX1_13 (by assumption) ?_
  try simp only [u2_app, true_and, and_true, and_false, false_and, and_self, Nat.reduceEqDiff, ↓reduceIte]
  refine r_putI (pc := 13) dX1_setTo_13 fwX1_13 (by assumption) (by omega) ?_
  refine r_aload_n (pc := 16) dX1_setTo_16 rfl ?_
  refine r_aload_n (pc := 17) dX1_setTo_17 rfl ?_
  refine r_getI (pc := 18) dX1_setTo_18 frX1_17 (by assumption) ?_
  try simp only [u2_app, true_and, and_true, and_false, false_and, and_self, Nat.reduceEqDiff, ↓reduceIte]
  refine r_putI (pc := 21) dX1_setTo_21 fwX1_17 (by assumption) (by omega) ?_
  refine r_aload_n (pc := 24) dX1_setTo_24 rfl ?_
  refine r_aload_n (pc := 25) dX1_setTo_25 rfl ?_
  refine r_getI (pc := 26) dX1_setTo_26 frX1_20 (by assumption) ?_
  try simp only [u2_app, true_and, and_true, and_false, false_and, and_self, Nat.reduceEqDiff, ↓reduceIte]
  refine r_putI (pc := 29) dX1_setTo_29 fwX1_20 (by assumption) (by omega) ?_
  refine r_aload_n (pc := 32) dX1_setTo_32 rfl ?_
  refine r_aload_n (pc := 33) dX1_setTo_33 rfl ?_
  refine r_getI (pc := 34) dX1_setTo_34 frX1_23 (by assumption) ?_
  try simp only [u2_app, true_and, and_true, and_false, false_and, and_self, Nat.reduceEqDiff, ↓reduceIte]
  refine r_putI (pc := 37) dX1_setTo_37 fwX1_23 (by assumption) (by omega) ?_
  refine t_vret (pc := 40) dX1_setTo_40 rfl ?_
  exact ⟨rfl, rfl, rfl⟩
def timeF (F H : Nat → Int) : Nat → Int := fun k => if (1 ≤ k ∧ k ≤ 5) ∨ k = 31 ∨ k = 32 then H k else F k
theorem sX2_setTimeTo {G : WG} {C : CF} {I : MI} {P : MP} {L : ML} {a b : Nat} (hF : FarmL G C P a := by assumption) (hF2 : FarmL G C P b := by assumption) : SX2_setTimeTo G [.ref a, .ref b] C I P L (NV C (QF a I (timeF (rdF I a) (rdF I b)) P L)) := by
  obtain ⟨hB, hK, -⟩ := id hF
  obtain ⟨hB2, hK2, -⟩ := id hF2
  refine en_V (by decide +kernel) (Nat.le_of_ble_eq_true rfl) ?_
  change Wd _ _ _ _ _ _ _ _ 0 [some _, some _] [] _ _ _ _
  refine r_aload_n (pc := 0) dX2_setTimeTo_0 rfl ?_
  refine r_aload_n (pc := 1) dX2_setTimeTo_1 rfl ?_
  refine r_getI (pc := 2) dX2_setTimeTo_2 frX2_39 (by assumption) ?_
  refine r_putI (pc := 5) dX2_setTimeTo_5 fwX2_39 (by assumption) (by omega) ?_
  refine r_aload_n (pc := 8) dX2_setTimeTo_8 rfl ?_
  refine r_aload_n (pc := 9) dX2_setTimeTo_9 rfl ?_
  refine r_getI (pc := 10) dX2_setTimeTo_10 frX2_42 (by assumption) ?_
  try simp only [u2_app, true_and, and_true, and_false, false_and, and_self, Nat.reduceEqDiff, ↓reduceIte]
  refine r_putI (pc := 13) dX2_setTimeTo_13 fwX2_42 (by assumption) (by omega) ?_
  refine r_aload_n (pc := 16) dX2_setTimeTo_16 rfl ?_
  refine r_aload_n (pc := 17) dX2_setTimeTo_17 rfl ?_
  refine r_getI (pc := 18) dX2_setTimeTo_18 frX2_45 (by assumption) ?_
  try simp only [u2_app, true_and, and_true, and_false, false_and, and_self, Nat.reduceEqDiff, ↓reduceIte]
  refine r_putI (pc := 21) dX2_setTimeTo_21 fwX2_45 (by assumption) (by omega) ?_
  refine r_aload_n (pc := 24) dX2_setTimeTo_24 rfl ?_
  refine r_aload_n (pc := 25) dX2_setTimeTo_25 rfl ?_
  refine r_getI (pc := 26) dX2_setTimeTo_26 frX2_48 (by assumption) ?_
  try simp only [u2_app, true_and, and_true, and_false, false_and, and_self, Nat.reduceEqDiff, ↓reduceIte]
  refine r_putI (pc := 29) dX2_setTimeTo_29 fwX2_48 (by assumption) (by omega) ?_
  refine r_aload_n (pc := 32) dX2_setTimeTo_32 rfl ?_
  refine r_aload_n (pc := 33) dX2_setTimeTo_33 rfl ?_
  refine r_getI (pc := 34) dX2_setTimeTo_34 frX2_51 (by assumption) ?_
  try simp only [u2_app, true_and, and_true, and_false, false_and, and_self, Nat.reduceEqDiff, ↓reduceIte]
  refine r_putI (pc := 37) dX2_setTimeTo_37 fwX2_51 (by assumption) (by omega) ?_
  refine r_aload_n (pc := 40) dX2_setTimeTo_40 rfl ?_
  refine r_aload_n (pc := 41) dX2_setTimeTo_41 rfl ?_
  refine r_getI (pc := 42) dX2_setTimeTo_42 frX2_57 (by assumption) ?_
  try simp only [u2_app, true_and, and_true, and_false, false_and, and_self, Nat.reduceEqDiff, ↓reduceIte]
  refine r_putI (pc := 45) dX2_setTimeTo_45 fwX2_57 (by assumption) (by omega) ?_
  refine r_aload_n (pc := 48) dX2_setTimeTo_48 rfl ?_
  refine r_aload_n (pc := 49) dX2_setTimeTo_49 rfl ?_
  refine r_getI (pc := 50) dX2_setTimeTo_50 frX2_60 (by assumption) ?_
  try simp only [u2_app, true_and, and_true, and_false, false_and, and_self, Nat.reduceEqDiff, ↓reduceIte]
  refine r_putI (pc := 53) dX2_setTimeTo_53 fwX2_60 (by assumption) (by omega) ?_
  refine t_vret (pc := 56) dX2_setTimeTo_56 rfl ?_
  refine ⟨?_, (outF.rf I a).u.u.u.u.u.u.u, rfl, rfl⟩
  rw [rd_12, rd_11, rd_9, rd_8, rd_7, rd_6, rd_5, at_12 I b, at_11 I b, at_9 I b, at_8 I b, at_7 I b, at_6 I b, at_5 I b]
  funext k
  simp only [up_app, timeF]
  (repeat' split) <;> first | (exfalso; omega) | rfl | (subst_vars; rfl)
def setN (F H : Nat → Int) (n : Nat) : Nat → Int := fun k => if k = 0 ∨ k = 6 then H k else if 7 ≤ k ∧ k < 7 + 4 * n then H k else F k
theorem setN_up (F H : Nat → Int) (n : Nat) : up (up (up (up (setN F H n) (7 + 4 * n) (H (7 + 4 * n))) (8 + 4 * n) (H (8 + 4 * n))) (9 + 4 * n) (H (9 + 4 * n))) (10 + 4 * n) (H (10 + 4 * n)) = setN F H (n + 1) := by
  funext k
  simp only [up_app, setN]
  by_cases h4 : k = 10 + 4 * n
  · subst h4; rw [if_pos rfl, if_neg (by omega), if_pos (by omega)]
  rw [if_neg h4]
  by_cases h3 : k = 9 + 4 * n
  · subst h3; rw [if_pos rfl, if_neg (by omega), if_pos (by omega)]
  rw [if_neg h3]
  by_cases h2 : k = 8 + 4 * n
  · subst h2; rw [if_pos rfl, if_neg (by omega), if_pos (by omega)]
  rw [if_neg h2]
  by_cases h1 : k = 7 + 4 * n
  · subst h1; rw [if_pos rfl, if_neg (by omega), if_pos (by omega)]
  rw [if_neg h1]
  (repeat' split) <;> first | (exfalso; omega) | rfl
def setF (F H : Nat → Int) : Nat → Int := timeF (setN F H (sizeF H)) H
theorem setF_app (F H : Nat → Int) (k : Nat) : setF F H k = if k < 7 ∨ k = 31 ∨ k = 32 ∨ k < 7 + 4 * sizeF H then H k else F k := by
  simp only [setF, timeF, setN]
  (repeat' split) <;> first | (exfalso; omega) | rfl
theorem FI_set {F H : Nat → Int} {Y Y2 : Int} (h : FI F Y) (h2 : FI H Y2) : FI (setF F H) Y2 := by
  obtain ⟨a0, a1, a2, a3, a4, a5, a6, a7⟩ := h
  obtain ⟨hs, hs2⟩ := sizeF_le h2
  obtain ⟨b0, b1, b2, b3, b4, b5, b6, b7⟩ := h2
  refine ⟨by rw [setF_app, if_pos (by omega)]; exact b0, by rw [setF_app, if_pos (by omega)]; exact b1, by rw [setF_app, if_pos (by omega)]; exact b2, by rw [setF_app, if_pos (by omega)]; exact b3, by rw [setF_app, if_pos (by omega)]; exact b4, by rw [setF_app, if_pos (by omega)]; exact b5, by rw [setF_app, if_pos (by omega)]; exact b6, fun f hf => ?_⟩
  rw [setF_app F H 6, if_pos (by omega)]
  by_cases hl : f < sizeF H
  · rw [setF_app, if_pos (by omega), setF_app, if_pos (by omega), setF_app, if_pos (by omega), setF_app, if_pos (by omega)]
    exact b7 f hf
  · rw [setF_app, if_neg (by omega), setF_app, if_neg (by omega), setF_app, if_neg (by omega), setF_app, if_neg (by omega)]
    have h7 := a7 f hf
    exact ⟨h7.1, h7.2.1, h7.2.2.1, h7.2.2.2.1, by omega⟩
theorem sX2_setTo {G : WG} {C : CF} {I : MI} {P : MP} {L : ML} {a b : Nat} {Y : Int} (hF : FarmL G C P a := by assumption) (hF2 : FarmL G C P b := by assumption) (hI2 : FI (rdF I b) Y := by assumption) (hW : WayL C P a (rdF I a) := by assumption) (hW2 : WayL C P b (rdF I b) := by assumption) (hab : b + 10 ≤ a ∨ a + 10 ≤ b := by omega) : SX2_setTo G [.ref a, .ref b] C I P L (NV C (QP a I (setF (rdF I a) (rdF I b)) C P L)) := by
  obtain ⟨hB, hK, hK1, hK2, hK3, hP0, hP1, hP2, hP3, hfam⟩ := id hF
  obtain ⟨xB, xK, xK1, xK2, xK3, xP0, xP1, xP2, xP3, xfam⟩ := id hF2
  obtain ⟨hs6, hsz⟩ := sizeF_le hI2
  generalize hH : rdF I b = H at *
  generalize hFF : rdF I a = F at *
  generalize hq : QP a I (setF F H) C P L = q
  refine en_V (by decide +kernel) (Nat.le_of_ble_eq_true rfl) ?_
  change Wd _ _ _ _ _ _ _ _ 0 [some _, some _, none] [] _ _ _ _
  have loop : ∀ (d f : Nat) (i : Int) (I1 : MI) (P1 : MP), f + d = sizeF H → i = (f : Int) → rdF I1 a = setN F H f → outF I I1 a → outP P P1 a → (∀ g, g < f → P1 (a + 4 + g) 0 = P (b + 4 + g) 0) → (∀ g, f ≤ g → P1 (a + 4 + g) 0 = P (a + 4 + g) 0) → Wd G yX2_setTo cX2_setTo 3 none 1 (C.2.1 + 0, C.2.2 + 0) (NV C q) 18 [some (.ref a), some (.ref b), some (.int (zI i))] [] C I1 P1 L := by
    intro d
    induction d using Nat.strongRecOn with
    | _ d ih =>
      intro f i I1 P1 hd hi hT hO hOP hlo hhi
      have hHb : rdF I1 b = H := by rw [rdF_out hO (by omega), hH]
      have h10 : I1 a 10 = H 6 := by rw [at_10 I1 a, hT]; rfl
      have h10b : I1 b 10 = H 6 := by rw [at_10 I1 b, hHb]
      have hFa : FarmL G C P1 a := hF.p hOP
      have hFb : FarmL G C P1 b := hF2.p hOP
      refine r_iload_n (pc := 18) dX2_setTo_18 rfl ?_
      refine r_aload_n (pc := 19) dX2_setTo_19 rfl ?_
      refine r_getI (pc := 20) dX2_setTo_20 frX2_54 (by assumption) ?_
      refine r_icmp_ge (pc := 23) 45 dX2_setTo_23 (by decide) (by omega) (by omega) (fun h23 => ?_) (fun h23 => ?_)
      · skip
        refine r_aload_n (pc := 45) dX2_setTo_45 rfl ?_
        refine r_aload_n (pc := 46) dX2_setTo_46 rfl ?_
        refine i_V1vg (pc := 47) okX2_setTimeTo inX2_setTimeTo selX2_setTimeTo q370 dX2_setTo_47 (by assumption) rfl (by decide) (Nat.le_of_ble_eq_true rfl) (sX2_setTimeTo) (fun I3 P3 L3 hq3 => ?_)
        obtain ⟨hT3, hO3, rfl, rfl⟩ := hq3
        refine t_vret (pc := 50) dX2_setTo_50 rfl ?_
        have hTT : rdF I3 a = setF F H := by rw [hT3, hT, hHb, setF, show sizeF H = f by omega]
        have hsf : sizeF H = f := by omega
        subst hq
        refine ⟨hTT, hO.tr hO3, hOP, ?_, rfl⟩
        intro g hg
        by_cases hgf : g < f
        · rw [hlo g hgf, setF_app, if_pos (by omega)]; exact hW2 g hg
        · rw [hhi g (by omega), setF_app, if_neg (by omega)]; exact hW g hg
      · skip
        have hf6 : f < 6 := by omega
        have hKf := (hfam f hf6).1
        have xKf := (xfam f hf6).1
        obtain ⟨w, hw, hKw⟩ := hW2 f hf6
        have hPw : P1 (b + 4 + f) 0 = some w := by rw [hOP (b + 4 + f) (by omega)]; exact hw
        have ek := at_k I1 b hf6
        have em := at_m I1 b hf6
        have ey := at_y I1 b hf6
        have ej := at_j I1 b hf6
        rw [hHb] at ek em ey ej
        refine r_aload_n (pc := 26) dX2_setTo_26 rfl ?_
        refine r_iload_n (pc := 27) dX2_setTo_27 rfl ?_
        refine i_V1rx (pc := 28) okX2_member inX2_member selX2_member q365 dX2_setTo_28 (by assumption) rfl (by decide) (Nat.le_of_ble_eq_true rfl) (sX2_member (f := f)) ?_
        refine r_aload_n (pc := 31) dX2_setTo_31 rfl ?_
        refine r_iload_n (pc := 32) dX2_setTo_32 rfl ?_
        refine i_V1rx (pc := 33) okX2_member inX2_member selX2_member q365 dX2_setTo_33 (by assumption) rfl (by decide) (Nat.le_of_ble_eq_true rfl) (sX2_member (f := f)) ?_
        refine i_V1vx (pc := 36) okX1_setTo inX1_setTo selX1_setTo q366 dX2_setTo_36 (by assumption) rfl (by decide) (Nat.le_of_ble_eq_true rfl) (sX1_setTo (w := w)) ?_
        refine r_iinc (pc := 39) dX2_setTo_39 rfl ?_
        refine r_goto (pc := 42) 18 dX2_setTo_42 (by decide) ?_
        exact ih (d - 1) (by omega) (f + 1) _ _ _ (by omega) (by omega) (by rw [rd_j _ _ _ hf6, rd_y _ _ _ hf6, rd_m _ _ _ hf6, rd_k _ _ _ hf6, ek, em, ey, ej, hT, setN_up]) hO.u.u.u.u hOP.u (fun g hg => by
          by_cases hgf : g = f
          · subst hgf; rw [u2_s, hw]
          · rw [u2_a _ _ _ _ (by omega)]; exact hlo g (by omega)) (fun g hg => by rw [u2_a _ _ _ _ (by omega)]; exact hhi g (by omega))
  refine r_aload_n (pc := 0) dX2_setTo_0 rfl ?_
  refine r_aload_n (pc := 1) dX2_setTo_1 rfl ?_
  refine r_getI (pc := 2) dX2_setTo_2 frX2_35 (by assumption) ?_
  refine r_putI (pc := 5) dX2_setTo_5 fwX2_35 (by assumption) (by omega) ?_
  refine r_aload_n (pc := 8) dX2_setTo_8 rfl ?_
  refine r_aload_n (pc := 9) dX2_setTo_9 rfl ?_
  refine r_getI (pc := 10) dX2_setTo_10 frX2_54 (by assumption) ?_
  try simp only [u2_app, true_and, and_true, and_false, false_and, and_self, Nat.reduceEqDiff, ↓reduceIte]
  refine r_putI (pc := 13) dX2_setTo_13 fwX2_54 (by assumption) (by omega) ?_
  refine r_iconst (pc := 16) dX2_setTo_16 ?_
  refine r_istore_n (pc := 17) dX2_setTo_17 (by decide) ?_
  refine loop (sizeF H) 0 _ _ _ (by omega) (by omega) ?_ (outF.rf I a).u.u (outP.rf P a) (fun g hg => by omega) (fun g hg => rfl)
  rw [rd_10, rd_4, hFF, at_10 I b, at_4 I b, hH]
  funext k
  simp only [up_app, setN]
  (repeat' split) <;> first | (exfalso; omega) | rfl | (subst_vars; rfl)


