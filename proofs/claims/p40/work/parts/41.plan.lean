/-! the plan: every way, one after another -/
abbrev PS : Type := Int × (Nat → Int) × (Nat → Int)
def rdS (I : MI) (t : Nat) : PS := (I t 6, I (t + 2), I (t + 3))
def planJ (go : (Nat → Int) → PS → PS) (T : Nat → Int) (D : Nat) : Nat → PS → PS
  | 0, s => s
  | j + 1, s => if wantF (jobsF T j (sizeF T)) false = 0 then go (goF (jobsF T j (sizeF T)) false) ((planJ go T D j s).1, up (planJ go T D j s).2.1 D j, (planJ go T D j s).2.2) else ((planJ go T D j s).1, up (planJ go T D j s).2.1 D j, (planJ go T D j s).2.2)
def planR : Nat → Nat → (Nat → Int) → PS → PS
  | 0, _, T, s => if s.1 < T 2 then (T 2, s.2.1, fun i => if i < 5 then s.2.1 i else s.2.2 i) else s
  | k + 1, D, T, s => planJ (planR k (D + 1)) T D (if noonF T (T 1) = true ∨ k = 0 then 1 else 5) s
def outT (D : Nat) (I I1 : MI) (t : Nat) : Prop := ∀ x, x ≠ t → x ≠ t + 2 → x ≠ t + 3 → (x < t + 16 + 10 * D ∨ t + 96 ≤ x) → I1 x = I x
def outTP (D : Nat) (P P1 : MP) (t : Nat) : Prop := ∀ x, (x < t + 16 + 10 * D ∨ t + 96 ≤ x) → P1 x = P x
theorem outT.tr {D D2 : Nat} {I I1 I2 : MI} {t : Nat} (h : outT D I I1 t) (h2 : outT D2 I1 I2 t) (hd : D ≤ D2 := by omega) : outT D I I2 t := fun x h3 h4 h5 h6 => (h2 x h3 h4 h5 (by omega)).trans (h x h3 h4 h5 h6)
theorem outT.f {D : Nat} {I I1 I2 : MI} {t b : Nat} (h : outT D I I1 t) (h2 : outF I1 I2 b) (hb : t + 16 + 10 * D ≤ b := by omega) (hb2 : b + 10 ≤ t + 96 := by omega) : outT D I I2 t := fun x h3 h4 h5 h6 => (h2 x (by omega)).trans (h x h3 h4 h5 h6)
theorem outTP.tr {D D2 : Nat} {P P1 P2 : MP} {t : Nat} (h : outTP D P P1 t) (h2 : outTP D2 P1 P2 t) (hd : D ≤ D2 := by omega) : outTP D P P2 t := fun x h3 => (h2 x (by omega)).trans (h x h3)
theorem outTP.f {D : Nat} {P P1 P2 : MP} {t b : Nat} (h : outTP D P P1 t) (h2 : outP P1 P2 b) (hb : t + 16 + 10 * D ≤ b := by omega) (hb2 : b + 10 ≤ t + 96 := by omega) : outTP D P P2 t := fun x h3 => (h2 x (by omega)).trans (h x h3)
/-- where a farm may stand that is tried at a depth -/
def hereT (t D a : Nat) : Prop := a + 10 ≤ t ∨ (t + 16 ≤ a ∧ a + 10 ≤ t + 16 + 10 * D) ∨ t + 96 ≤ a
theorem rdF_oT {D : Nat} {I I1 : MI} {t a : Nat} (h : outT D I I1 t) (ha : hereT t D a) : rdF I1 a = rdF I a := by
  unfold hereT at ha
  funext k
  simp only [rdF]
  rw [h a (by omega) (by omega) (by omega) (by omega)]
  by_cases h7 : k < 7
  · rw [if_pos h7, if_pos h7]
  rw [if_neg h7, if_neg h7]
  by_cases h31 : k < 31
  · rw [if_pos h31, if_pos h31, h _ (by omega) (by omega) (by omega) (by omega)]
  rw [if_neg h31, if_neg h31]
theorem WayL_oT {D : Nat} {C : CF} {P P1 : MP} {t a : Nat} {F : Nat → Int} (h : WayL C P a F) (ho : outTP D P P1 t) (ha : hereT t D a) : WayL C P1 a F := by
  unfold hereT at ha
  intro f hf
  rw [ho (a + 4 + f) (by omega)]
  exact h f hf
theorem FarmL_oT {G : WG} {D : Nat} {C : CF} {P P1 : MP} {t a : Nat} (h : FarmL G C P a) (ho : outTP D P P1 t) (ha : hereT t D a) : FarmL G C P1 a := by
  unfold hereT at ha
  obtain ⟨hB, hK, hK1, hK2, hK3, hP0, hP1, hP2, hP3, hfam⟩ := h
  exact ⟨hB, hK, hK1, hK2, hK3, by rw [ho _ (by omega)]; exact hP0, by rw [ho _ (by omega)]; exact hP1, by rw [ho _ (by omega)]; exact hP2, by rw [ho _ (by omega)]; exact hP3, fun f hf => ⟨(hfam f hf).1, by rw [ho _ (by omega)]; exact (hfam f hf).2⟩⟩
theorem rdS_f {I I1 : MI} {t b : Nat} (h : outF I I1 b) (hb : t + 4 ≤ b := by omega) : rdS I1 t = rdS I t := by
  unfold rdS
  rw [h t (by omega), h (t + 2) (by omega), h (t + 3) (by omega)]
theorem TF_f {C : CF} {I I1 : MI} {P P1 : MP} {a b : Nat} (h : TF C I P a) (ho : outF I I1 b) (hp : outP P P1 b) (hab : a + 10 ≤ b ∨ b + 10 ≤ a := by omega) : TF C I1 P1 a := by
  unfold TF at *
  rw [rdF_out ho (by omega)]
  exact ⟨h.1.p hp (by omega), h.2⟩
theorem TF_u2 {C : CF} {I : MI} {P : MP} {a x k : Nat} {v : Int} (h : TF C I P a) (hx : x < a ∨ a + 10 ≤ x := by omega) : TF C (u2 I x k v) P a := by
  unfold TF at *
  rw [rdF_u2 _ hx]
  exact h
theorem rdS_t (I : MI) (t D : Nat) (v : Int) : rdS (u2 I (t + 2) D v) t = ((rdS I t).1, up (rdS I t).2.1 D v, (rdS I t).2.2) := by
  unfold rdS
  rw [u2_a _ _ _ _ (by omega)]
  congr 2
  · funext j; simp only [u2_app, up_app, eq_self, true_and]
  · funext j; rw [u2_a _ _ _ _ (by omega)]
/-- what the trial of a plan leaves -/
def QPl (G : WG) (t D : Nat) (I : MI) (S : PS) (C : CF) (P : MP) (L : ML) : MI → MP → ML → Prop := fun I1 P1 L1 => rdS I1 t = S ∧ outT D I I1 t ∧ outTP D P P1 t ∧ TrialsL G C P1 t ∧ (∀ i, D ≤ i → i < 8 → TF C I1 P1 (t + 16 + 10 * i)) ∧ L = L1
/-- of like rows the first stays -/
def kmI (I : MI) (t : Nat) (g : Int) : MI := if I t 6 < g then cpR (u2 I t 6 g) (t + 2) (t + 3) 5 else I
theorem km_rdS (I : MI) (t : Nat) (g : Int) : rdS (kmI I t g) t = if (rdS I t).1 < g then (g, (rdS I t).2.1, fun i => if i < 5 then (rdS I t).2.1 i else (rdS I t).2.2 i) else rdS I t := by
  unfold kmI
  by_cases h : I t 6 < g
  · rw [if_pos h, if_pos (show (rdS I t).1 < g from h)]
    unfold rdS
    rw [cpR_n _ (by omega), u2_s, cpR_n _ (by omega)]
    congr 2
    · funext j; rw [u2_a _ _ _ _ (by omega)]
    · funext j
      show (if t + 3 = t + 3 ∧ j < 5 then u2 I t 6 g (t + 2) j else u2 I t 6 g (t + 3) j) = if j < 5 then I (t + 2) j else I (t + 3) j
      rw [u2_a _ _ _ _ (by omega), u2_a _ _ _ _ (by omega)]
      simp only [eq_self, true_and]
  · rw [if_neg h, if_neg (show ¬ (rdS I t).1 < g from h)]
theorem km_out {I : MI} {t x : Nat} {g : Int} (h1 : x ≠ t) (h3 : x ≠ t + 3) : kmI I t g x = I x := by
  unfold kmI
  split
  · rw [cpR_n _ (by omega)]; funext j; rw [u2_a _ _ _ _ (by omega)]
  · rfl
theorem km_TF {C : CF} {I : MI} {P : MP} {t a : Nat} {g : Int} (h : TF C I P a) (ha : t + 4 ≤ a) : TF C (kmI I t g) P a := by
  unfold kmI
  split
  · have h := TF_u2 (x := t) (k := 6) (v := g) h (by omega)
    unfold TF at *
    have e : rdF (cpR (u2 I t 6 g) (t + 2) (t + 3) 5) a = rdF (u2 I t 6 g) a := by
      funext j
      simp only [rdF]
      rw [cpR_n _ (by omega), cpR_n _ (by omega)]
    rw [e]; exact h
  · exact h
theorem km_lo {I : MI} {t : Nat} {g : Int} (h : -1 ≤ I t 6 ∧ I t 6 ≤ 9999) (hg : 0 ≤ g ∧ g ≤ 9999) : -1 ≤ kmI I t g t 6 ∧ kmI I t g t 6 ≤ 9999 := by
  unfold kmI
  split
  · rw [cpR_n _ (by omega), u2_s]; omega
  · exact h
theorem sX10_keepIfMost {G : WG} {C : CF} {I : MI} {P : MP} {L : ML} {t : Nat} {g : Int} (ht : TrialsL G C P t := by assumption) (hg : -1 ≤ I t 6 ∧ I t 6 ≤ 9999 := by assumption) (hg2 : 0 ≤ g ∧ g ≤ 9999 := by assumption) : SX10_keepIfMost G [.ref t, .int (zI g)] C I P L (NV C (XV (kmI I t g) P L)) := by
  obtain ⟨h0, hK, hK1, hK2, hK3, hK4, hK5, hP0, hP1, hP2, hP3, hP4, hP5, hf, hp⟩ := id ht
  refine en_V (by decide +kernel) (Nat.le_of_ble_eq_true rfl) ?_
  change Wd _ _ _ _ _ _ _ _ 0 [some _, some _] [] _ _ _ _
  refine r_iload_n (pc := 0) dX10_keepIfMost_0 rfl ?_
  refine r_aload_n (pc := 1) dX10_keepIfMost_1 rfl ?_
  refine r_getI (pc := 2) dX10_keepIfMost_2 frX10_37 (by assumption) ?_
  refine r_icmp_gt (pc := 5) 9 dX10_keepIfMost_5 (by decide) (by omega) (by omega) (fun h5 => ?_) (fun h5 => ?_)
  · skip
    refine r_aload_n (pc := 9) dX10_keepIfMost_9 rfl ?_
    refine r_iload_n (pc := 10) dX10_keepIfMost_10 rfl ?_
    refine r_putI (pc := 11) dX10_keepIfMost_11 fwX10_37 (by assumption) (by omega) ?_
    refine r_aload_n (pc := 14) dX10_keepIfMost_14 rfl ?_
    refine r_getA (pc := 15) dX10_keepIfMost_15 frX10_17 (by assumption) (by assumption) ?_
    refine r_aload_n (pc := 18) dX10_keepIfMost_18 rfl ?_
    refine r_getA (pc := 19) dX10_keepIfMost_19 frX10_21 (by assumption) (by assumption) ?_
    refine i_SN2vx (pc := 22) okX11_copy staX11_copy nwX10_82 dX10_keepIfMost_22 (by decide) (Nat.le_of_ble_eq_true rfl) (sX11_copy (n := 5)) ?_
    refine t_vret (pc := 25) dX10_keepIfMost_25 rfl ?_
    exact ⟨by unfold kmI; rw [if_pos (by omega)], rfl, rfl⟩
  · skip
    refine t_vret (pc := 8) dX10_keepIfMost_8 rfl ?_
    exact ⟨by unfold kmI; rw [if_neg (by omega)], rfl, rfl⟩
theorem sX10_planFrom {G : WG} {C : CF} {L : ML} {t m : Nat} (hm : m ≤ 5) : ∀ (k rk D a : Nat) (I : MI) (P : MP) (Y x y : Int), D + k = m → 5 + k ≤ rk → x = (D : Int) → y = (m : Int) → TrialsL G C P t → (∀ i, D ≤ i → i < 8 → TF C I P (t + 16 + 10 * i)) → hereT t D a → FarmL G C P a → FI (rdF I a) Y → WayL C P a (rdF I a) → Y + k ≤ 999000 → -1 ≤ I t 6 ∧ I t 6 ≤ 9999 → SX10_planFrom G rk [.ref t, .ref a, .int (zI x), .int (zI y)] C I P L (NV C (fun I1 P1 L1 => QPl G t D I (planR k D (trF (rdF I a)) (rdS I t)) C P L I1 P1 L1 ∧ -1 ≤ I1 t 6 ∧ I1 t 6 ≤ 9999)) := by
  intro k
  induction k with
  | zero =>
    intro rk D a I P Y x y hD hrk hx hy ht hT ha hF hI hW hY hg
    subst hx hy
    obtain ⟨h0, hK, hK1, hK2, hK3, hK4, hK5, hP0, hP1, hP2, hP3, hP4, hP5, hf, hp⟩ := id ht
    have hKa := hF.2.1
    have hg2 : 0 ≤ I a 6 ∧ I a 6 ≤ 9999 := hI.2.2.1
    have hs6 := (sizeF_le hI).1
    have e2 : trF (rdF I a) 2 = I a 6 := by rw [trF_a _ (by omega)]; rfl
    have hat : a ≠ t := by unfold hereT at ha; omega
    refine en_V (by decide +kernel) (Nat.le_of_ble_eq_true rfl) ?_
    change Wd _ _ _ _ _ _ _ _ 0 [some _, some _, some _, some _, none, none, none] [] _ _ _ _
    refine r_iload_n (pc := 0) dX10_planFrom_0 rfl ?_
    refine r_iload_n (pc := 1) dX10_planFrom_1 rfl ?_
    refine r_icmp_lt (pc := 2) 14 dX10_planFrom_2 (by decide) (by omega) (by omega) (fun h2 => ?_) (fun h2 => ?_)
    · exfalso; omega
    · skip
      refine r_aload_n (pc := 5) dX10_planFrom_5 rfl ?_
      refine r_aload_n (pc := 6) dX10_planFrom_6 rfl ?_
      refine r_getI (pc := 7) dX10_planFrom_7 frX10_49 (by assumption) ?_
      refine i_V1vx (pc := 10) okX10_keepIfMost inX10_keepIfMost selX10_keepIfMost q536 dX10_planFrom_10 (by assumption) rfl (by omega) (Nat.le_of_ble_eq_true rfl) (sX10_keepIfMost) ?_
      refine t_vret (pc := 13) dX10_planFrom_13 rfl ?_
      refine ⟨⟨?_, fun x h1 h2 h3 _ => ?_, fun _ _ => rfl, ht, fun i h1 h2 => ?_, rfl⟩, ?_⟩
      · rw [planR, e2]; exact km_rdS I t (I a 6)
      · exact km_out h1 h3
      · exact km_TF (hT i h1 h2) (by omega)
      · exact km_lo hg hg2
  | succ k ihk =>
    intro rk D a I P Y x y hD hrk hx hy ht hT ha hF hI hW hY hg
    subst hx hy
    obtain ⟨h0, hK, hK1, hK2, hK3, hK4, hK5, hP0, hP1, hP2, hP3, hP4, hP5, hf, hp⟩ := id ht
    have hKa := hF.2.1
    obtain ⟨hs6, hsz⟩ := sizeF_le hI
    have hPb := (hp D (by omega)).2
    have hy5 : 0 ≤ I a 5 ∧ I a 5 ≤ Y := hI.2.1
    have hsp : 2 ≤ I a 4 ∧ I a 4 ≤ 70 := hI.1
    generalize hTT : trF (rdF I a) = T
    have hnn : noonF T (T 1) = noonF (rdF I a) (I a 5) := by rw [← hTT, trF_a _ (by omega), trF, tr_noon]; rfl
    have hTs : sizeF T = sizeF (rdF I a) := by rw [← hTT, trF_sz]
    generalize hcc : (if noonF T (T 1) = true ∨ k = 0 then 1 else 5 : Nat) = cnt
    generalize hS0 : rdS I t = S0
    have hplan : planR (k + 1) D T S0 = planJ (planR k (D + 1)) T D cnt S0 := by rw [planR, hcc]
    rw [hplan]
    have hc5 : cnt ≤ 5 := by rw [← hcc]; split <;> omega
    clear hplan
    refine en_V (by decide +kernel) (Nat.le_of_ble_eq_true rfl) ?_
    change Wd _ _ _ _ _ _ _ _ 0 [some _, some _, some _, some _, none, none, none] [] _ _ _ _
    have loop : ∀ (d j : Nat) (i N : Int) (I1 : MI) (P1 : MP), j + d = cnt → i = (j : Int) → N = (cnt : Int) → rdS I1 t = planJ (planR k (D + 1)) T D j S0 → outT D I I1 t → outTP D P P1 t → TrialsL G C P1 t → (∀ i, D ≤ i → i < 8 → TF C I1 P1 (t + 16 + 10 * i)) → -1 ≤ I1 t 6 ∧ I1 t 6 ≤ 9999 → Wd G yX10_planFrom cX10_planFrom 7 none rk (C.2.1 + 0, C.2.2 + 0) (NV C (fun I1 P1 L1 => QPl G t D I (planJ (planR k (D + 1)) T D cnt S0) C P L I1 P1 L1 ∧ -1 ≤ I1 t 6 ∧ I1 t 6 ≤ 9999)) 58 [some (.ref t), some (.ref a), some (.int (zI (D : Int))), some (.int (zI (m : Int))), some (.ref (t + 16 + 10 * D)), some (.int (zI N)), some (.int (zI i))] [] C I1 P1 L := by
      intro d
      induction d using Nat.strongRecOn with
      | _ d ih =>
        intro j i N I1 P1 hd hi hN hS hO hOP ht1 hT1 hg1
        obtain ⟨-, -, -, -, -, -, -, zP0, zP1, zP2, zP3, zP4, zP5, zf, zp⟩ := id ht1
        have hF1 : FarmL G C P1 a := FarmL_oT hF hOP ha
        have eA : rdF I1 a = rdF I a := rdF_oT hO ha
        have hb := (zp D (by omega)).1
        have hKb := hb.2.1
        have hTb := hT1 D (by omega) (by omega)
        refine r_iload (pc := 58) dX10_planFrom_58 rfl ?_
        refine r_iload (pc := 60) dX10_planFrom_60 rfl ?_
        refine r_icmp_ge (pc := 62) 113 dX10_planFrom_62 (by decide) (by omega) (by omega) (fun h62 => ?_) (fun h62 => ?_)
        · skip
          refine t_vret (pc := 113) dX10_planFrom_113 rfl ?_
          exact ⟨⟨by rw [hS, show j = cnt by omega], hO, hOP, ht1, hT1, rfl⟩, hg1⟩
        · skip
          have hu1 : rdF (u2 I1 (t + 2) D i) a = rdF I1 a := rdF_u2 _ (by unfold hereT at ha; omega)
          have hub : rdF (u2 I1 (t + 2) D i) (t + 16 + 10 * D) = rdF I1 (t + 16 + 10 * D) := rdF_u2 _ (by omega)
          have hSu := rdS_t I1 t D i
          have hIu : FI (rdF (u2 I1 (t + 2) D i) a) Y := by rw [hu1, eA]; exact hI
          have hWu : WayL C P1 a (rdF (u2 I1 (t + 2) D i) a) := by rw [hu1, eA]; exact WayL_oT hW hOP ha
          have hWb : WayL C P1 (t + 16 + 10 * D) (rdF (u2 I1 (t + 2) D i) (t + 16 + 10 * D)) := by rw [hub]; exact hTb.1
          have hTu : ∀ i', D ≤ i' → i' < 8 → TF C (u2 I1 (t + 2) D i) P1 (t + 16 + 10 * i') := fun i' h1 h2 => TF_u2 (hT1 i' h1 h2) (by omega)
          have hOu : outT D I (u2 I1 (t + 2) D i) t := fun x h3 h4 h5 h6 => by
            funext j'
            rw [u2_a _ _ _ _ h4, hO x h3 h4 h5 h6]
          have hgu : (u2 I1 (t + 2) D i) t 6 = I1 t 6 := u2_a _ _ _ _ (by omega)
          refine r_aload_n (pc := 65) dX10_planFrom_65 rfl ?_
          refine r_getA (pc := 66) dX10_planFrom_66 frX10_17 (by assumption) (by assumption) ?_
          refine r_iload_n (pc := 69) dX10_planFrom_69 rfl ?_
          refine r_iload (pc := 70) dX10_planFrom_70 rfl ?_
          refine i_SN3vx (pc := 72) okX11_put staX11_put nwX10_67 dX10_planFrom_72 (by omega) (Nat.le_of_ble_eq_true rfl) (sX11_put (n := 5) (j := D)) ?_
          generalize hIu' : u2 I1 (t + 2) D i = Iu at *
          refine r_aload (pc := 75) dX10_planFrom_75 rfl ?_
          refine r_aload_n (pc := 77) dX10_planFrom_77 rfl ?_
          refine i_V1vg (pc := 78) okX2_setTo inX2_setTo selX2_setTo q548 dX10_planFrom_78 (by assumption) rfl (by omega) (Nat.le_of_ble_eq_true rfl) (sX2_setTo (Y := Y) (hab := by unfold hereT at ha; omega)) (fun I3 P3 L3 hq3 => ?_)
          obtain ⟨hT3, hO3, hOP3, hW3, rfl⟩ := hq3
          have ht3 : TrialsL G C P3 t := ht1.p hOP3 (Or.inr (Or.inr ⟨1 + D, by omega, by omega⟩))
          obtain ⟨-, -, -, -, -, -, -, -, -, -, -, -, -, -, wp⟩ := id ht3
          have hb3 := (wp D (by omega)).1
          have hFI3 : FI (rdF I3 (t + 16 + 10 * D)) Y := by rw [hT3]; exact FI_set (hTu D (by omega) (by omega)).2 hIu
          have hz3 : sizeF (rdF I3 (t + 16 + 10 * D)) = sizeF T := by rw [hT3, sz_set, hu1, eA, hTs]
          have htr3 : trF (rdF I3 (t + 16 + 10 * D)) = T := by rw [hT3, trF_set, hu1, eA, hTT]
          refine r_aload (pc := 81) dX10_planFrom_81 rfl ?_
          refine r_iload (pc := 83) dX10_planFrom_83 rfl ?_
          refine i_V1vg (pc := 85) okX2_allDo inX2_allDo selX2_allDo q549 dX10_planFrom_85 (by assumption) rfl (by omega) (Nat.le_of_ble_eq_true rfl) (sX2_allDo (Y := Y)) (fun I4 P4 L4 hq4 => ?_)
          obtain ⟨hT4, hO4, rfl, rfl⟩ := hq4
          have hFI4 : FI (rdF I4 (t + 16 + 10 * D)) Y := by rw [hT4]; exact FI_jobs hFI3 (by omega) _
          have hW4 : WayL C P3 (t + 16 + 10 * D) (rdF I4 (t + 16 + 10 * D)) := by
            rw [hT4]
            refine way_fx (F := rdF I3 (t + 16 + 10 * D)) ?_ (fun f hf => fx_jobs _ _ (by omega) _)
            rw [hT3]; exact hW3
          have hz4 : sizeF (rdF I4 (t + 16 + 10 * D)) = sizeF T := by rw [hT4, sz_same (fx_jobs _ _ (by omega) _), hz3]
          have htr4 : trF (rdF I4 (t + 16 + 10 * D)) = jobsF T i (sizeF T) := by rw [hT4, trF_jobs (sizeF_le hFI3).1, htr3, hz3]
          have hwr := wantF_in hFI4 false
          have hwe : wantF (rdF I4 (t + 16 + 10 * D)) false = wantF (jobsF T i (sizeF T)) false := by rw [← htr4, trF_want (sizeF_le hFI4).1]
          refine r_aload (pc := 88) dX10_planFrom_88 rfl ?_
          refine r_iconst (pc := 90) dX10_planFrom_90 ?_
          refine i_V1ig (pc := 91) okX2_goBy inX2_goBy selX2_goBy q553 dX10_planFrom_91 (by assumption) rfl (by omega) (Nat.le_of_ble_eq_true rfl) (sX2_goBy (bad := false)) (fun r5 I5 P5 L5 hq5 => ?_)
          obtain ⟨rfl, hT5, hO5, rfl, rfl⟩ := hq5
          have hFI5 : FI (rdF I5 (t + 16 + 10 * D)) (Y + 1) := by rw [hT5]; exact FI_go hFI4 false
          have hW5 : WayL C P3 (t + 16 + 10 * D) (rdF I5 (t + 16 + 10 * D)) := by rw [hT5]; exact way_fx hW4 (fun k hk => fx_go _ _ (by unfold fixd; omega) (by omega))
          have htr5 : trF (rdF I5 (t + 16 + 10 * D)) = goF (jobsF T i (sizeF T)) false := by rw [hT5, trF_go (sizeF_le hFI4).1, htr4]
          have hO35 := (hO3.tr hO4).tr hO5
          have hS5 : rdS I5 t = rdS Iu t := rdS_f hO35 (by omega)
          have hO5T : outT D I I5 t := hOu.f hO35
          have hOP5 : outTP D P P3 t := hOP.f hOP3
          have hT5' : ∀ i', D ≤ i' → i' < 8 → TF C I5 P3 (t + 16 + 10 * i') := fun i' h1 h2 => by
            by_cases hiD : i' = D
            · subst hiD; exact ⟨hW5, FI_le hFI5 (by omega)⟩
            · exact TF_f (hTu i' h1 h2) hO35 hOP3 (by omega)
          have hg5 : -1 ≤ I5 t 6 ∧ I5 t 6 ≤ 9999 := by rw [hO35 t (by omega), hgu]; exact hg1
          refine r_if_ne (pc := 94) 107 dX10_planFrom_94 (by decide) (by omega) (fun h94 => ?_) (fun h94 => ?_)
          · skip
            refine r_iinc (pc := 107) dX10_planFrom_107 rfl ?_
            refine r_goto (pc := 110) 58 dX10_planFrom_110 (by decide) ?_
            refine ih (d - 1) (by omega) (j + 1) _ _ _ _ (by omega) (by omega) hN ?_ hO5T hOP5 ht3 hT5' hg5
            rw [planJ, ← hi, if_neg (by rw [← hwe]; exact h94), hS5, hSu, hS]
          · skip
            refine r_aload_n (pc := 97) dX10_planFrom_97 rfl ?_
            refine r_aload (pc := 98) dX10_planFrom_98 rfl ?_
            refine r_iload_n (pc := 100) dX10_planFrom_100 rfl ?_
            refine r_iconst (pc := 101) dX10_planFrom_101 ?_
            refine r_iadd (pc := 102) dX10_planFrom_102 ?_
            refine r_iload_n (pc := 103) dX10_planFrom_103 rfl ?_
            refine i_S4vg (pc := 104) okX10_planFrom staX10_planFrom q533 dX10_planFrom_104 (by omega) (Nat.le_of_ble_eq_true rfl) (ihk (4 + (k + 1)) (D + 1) (t + 16 + 10 * D) I5 P3 (Y + 1) _ _ (by omega) (by omega) (by omega) rfl ht3 (fun i' h1 h2 => hT5' i' (by omega) h2) (by unfold hereT; omega) hb3 hFI5 hW5 (by omega) hg5) (fun I6 P6 L6 hq6 => ?_)
            obtain ⟨⟨hS6, hO6, hOP6, ht6, hT6, rfl⟩, hg6⟩ := hq6
            refine r_iinc (pc := 107) dX10_planFrom_107 rfl ?_
            refine r_goto (pc := 110) 58 dX10_planFrom_110 (by decide) ?_
            refine ih (d - 1) (by omega) (j + 1) _ _ _ _ (by omega) (by omega) hN ?_ (hO5T.tr hO6) (hOP5.tr hOP6) ht6 (fun i' h1 h2 => ?_) hg6
            · rw [planJ, ← hi, if_pos (by rw [← hwe]; exact h94), hS6, htr5, hS5, hSu, hS]
            · by_cases hiD : i' = D
              · subst hiD
                have h := hT5' i' h1 h2
                unfold TF at *
                rw [rdF_oT hO6 (by unfold hereT; omega)]
                exact ⟨WayL_oT h.1 hOP6 (by unfold hereT; omega), h.2⟩
              · exact hT6 i' (by omega) h2
    refine r_iload_n (pc := 0) dX10_planFrom_0 rfl ?_
    refine r_iload_n (pc := 1) dX10_planFrom_1 rfl ?_
    refine r_icmp_lt (pc := 2) 14 dX10_planFrom_2 (by decide) (by first | omega | exact iR_b _) (by first | omega | exact iR_b _) (fun h2 => ?_) (fun h2 => ?_)
    · skip
      refine r_aload_n (pc := 14) dX10_planFrom_14 rfl ?_
      refine r_getA (pc := 15) dX10_planFrom_15 frX10_11 (by assumption) (by assumption) ?_
      refine r_iload_n (pc := 18) dX10_planFrom_18 rfl ?_
      refine i_SN2rx (pc := 19) okX11_farmAt staX11_farmAt nwX10_56 dX10_planFrom_19 (by omega) (Nat.le_of_ble_eq_true rfl) (sX11_farmAt (n := 8) (i := D)) ?_
      refine r_astore (pc := 22) dX10_planFrom_22 (by decide) ?_
      refine r_aload (pc := 24) dX10_planFrom_24 rfl ?_
      refine r_ifnonnull (pc := 26) 30 dX10_planFrom_26 (by decide) ?_
      refine r_aload_n (pc := 30) dX10_planFrom_30 rfl ?_
      refine r_aload_n (pc := 31) dX10_planFrom_31 rfl ?_
      refine r_getI (pc := 32) dX10_planFrom_32 frX10_60 (by assumption) ?_
      refine i_V1ix (pc := 35) okX2_isNoon inX2_isNoon selX2_isNoon q544 dX10_planFrom_35 (by assumption) rfl (by omega) (Nat.le_of_ble_eq_true rfl) (sX2_isNoon) ?_
      refine r_if_ne (pc := 38) 48 dX10_planFrom_38 (by decide) (by first | omega | exact iR_b _) (fun h38 => ?_) (fun h38 => ?_)
      · skip
        refine r_iconst (pc := 48) dX10_planFrom_48 ?_
        refine r_goto (pc := 49) 53 dX10_planFrom_49 (by decide) ?_
        refine r_istore (pc := 53) dX10_planFrom_53 (by decide) ?_
        refine r_iconst (pc := 55) dX10_planFrom_55 ?_
        refine r_istore (pc := 56) dX10_planFrom_56 (by decide) ?_
        refine loop cnt 0 _ _ I P (by omega) (by omega) ?_ hS0 (fun _ _ _ _ _ => rfl) (fun _ _ => rfl) ht hT hg
        rw [← hcc, if_pos ?_]; · rfl
        first
          | exact Or.inr (by omega)
          | exact Or.inl (by rw [hnn]; cases hz : noonF (rdF I a) (I a 5) <;> simp_all)
      · skip
        refine r_iload_n (pc := 41) dX10_planFrom_41 rfl ?_
        refine r_iload_n (pc := 42) dX10_planFrom_42 rfl ?_
        refine r_iconst (pc := 43) dX10_planFrom_43 ?_
        refine r_isub (pc := 44) dX10_planFrom_44 ?_
        refine r_icmp_ne (pc := 45) 52 dX10_planFrom_45 (by decide) (by first | omega | exact iR_b _) (by first | omega | exact iR_b _) (fun h45 => ?_) (fun h45 => ?_)
        · skip
          refine r_iconst (pc := 52) dX10_planFrom_52 ?_
          refine r_istore (pc := 53) dX10_planFrom_53 (by decide) ?_
          refine r_iconst (pc := 55) dX10_planFrom_55 ?_
          refine r_istore (pc := 56) dX10_planFrom_56 (by decide) ?_
          refine loop cnt 0 _ _ I P (by omega) (by omega) ?_ hS0 (fun _ _ _ _ _ => rfl) (fun _ _ => rfl) ht hT hg
          rw [← hcc, if_neg (by intro hz; rcases hz with hz | hz; · rw [hnn] at hz; rw [hz] at h38; simp at h38
                                · omega)]; rfl
        · skip
          refine r_iconst (pc := 48) dX10_planFrom_48 ?_
          refine r_goto (pc := 49) 53 dX10_planFrom_49 (by decide) ?_
          refine r_istore (pc := 53) dX10_planFrom_53 (by decide) ?_
          refine r_iconst (pc := 55) dX10_planFrom_55 ?_
          refine r_istore (pc := 56) dX10_planFrom_56 (by decide) ?_
          refine loop cnt 0 _ _ I P (by omega) (by omega) ?_ hS0 (fun _ _ _ _ _ => rfl) (fun _ _ => rfl) ht hT hg
          rw [← hcc, if_pos ?_]; · rfl
          first
            | exact Or.inr (by omega)
            | exact Or.inl (by rw [hnn]; cases hz : noonF (rdF I a) (I a 5) <;> simp_all)
    · exfalso; omega


