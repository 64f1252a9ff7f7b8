/-! the best plan; the ways without want -/
theorem sX10_plannedJob {G : WG} {C : CF} {I : MI} {P : MP} {L : ML} {t j : Nat} {x : Int} (ht : TrialsL G C P t := by assumption) (hx : x = (j : Int) := by first | rfl | omega) (hj : j < 5 := by omega) : SX10_plannedJob G [.ref t, .int (zI x)] C I P L (NI C (XI (I (t + 3) j) I P L)) := by
  obtain ⟨h0, hK, hK1, hK2, hK3, hK4, hK5, hP0, hP1, hP2, hP3, hP4, hP5, hf, hp⟩ := id ht
  refine en_I (by decide +kernel) (Nat.le_of_ble_eq_true rfl) ?_
  change Wd _ _ _ _ _ _ _ _ 0 [some _, some _] [] _ _ _ _
  refine r_aload_n (pc := 0) dX10_plannedJob_0 rfl ?_
  refine r_getA (pc := 1) dX10_plannedJob_1 frX10_21 (by assumption) (by assumption) ?_
  refine r_iload_n (pc := 4) dX10_plannedJob_4 rfl ?_
  refine i_SN2ix (pc := 5) okX11_at staX11_at nwX10_45 dX10_plannedJob_5 (by decide) (Nat.le_of_ble_eq_true rfl) (sX11_at (n := 5) (j := j)) ?_
  refine t_iret (pc := 8) dX10_plannedJob_8 rfl rfl ?_
  exact ⟨rfl, rfl, rfl, rfl⟩
def planT (T : Nat → Int) (m : Nat) (tr0 pl0 : Nat → Int) : PS := planR m 0 T (-1, tr0, pl0)
theorem sX10_bestPlan {G : WG} {C : CF} {I : MI} {P : MP} {L : ML} {t a m : Nat} {Y x : Int} (ht : TrialsL G C P t := by assumption) (hT : ∀ i, 0 ≤ i → i < 8 → TF C I P (t + 16 + 10 * i) := by assumption) (hF : FarmL G C P a := by assumption) (hI : FI (rdF I a) Y := by assumption) (hW : WayL C P a (rdF I a) := by assumption) (hat : a + 10 ≤ t ∨ t + 96 ≤ a := by omega) (hY : Y ≤ 990000 := by omega) (hx : x = (m : Int) := by first | rfl | omega) (hm : m ≤ 5 := by omega) : SX10_bestPlan G [.ref t, .ref a, .int (zI x)] C I P L (NI C (fun r I1 P1 L1 => r = (planT (trF (rdF I a)) m (I (t + 2)) (I (t + 3))).1 ∧ QPl G t 0 I (planT (trF (rdF I a)) m (I (t + 2)) (I (t + 3))) C P L I1 P1 L1)) := by
  subst hx
  obtain ⟨h0, hK, -⟩ := id ht
  have e6 : (u2 I t 6 (-1)) t 6 = -1 := u2_s _ _ _ _
  have eA : rdF (u2 I t 6 (-1)) a = rdF I a := rdF_u2 _ (by omega)
  have eS : rdS (u2 I t 6 (-1)) t = (-1, I (t + 2), I (t + 3)) := by
    unfold rdS
    rw [e6]
    congr 2
    · funext j; rw [u2_a _ _ _ _ (by omega)]
    · funext j; rw [u2_a _ _ _ _ (by omega)]
  refine en_I (by decide +kernel) (Nat.le_of_ble_eq_true rfl) ?_
  change Wd _ _ _ _ _ _ _ _ 0 [some _, some _, some _] [] _ _ _ _
  refine r_aload_n (pc := 0) dX10_bestPlan_0 rfl ?_
  refine r_iconst (pc := 1) dX10_bestPlan_1 ?_
  refine r_putI (pc := 2) dX10_bestPlan_2 fwX10_37 (by assumption) (by omega) ?_
  refine r_aload_n (pc := 5) dX10_bestPlan_5 rfl ?_
  refine r_aload_n (pc := 6) dX10_bestPlan_6 rfl ?_
  refine r_iconst (pc := 7) dX10_bestPlan_7 ?_
  refine r_iload_n (pc := 8) dX10_bestPlan_8 rfl ?_
  refine i_S4vg (pc := 9) okX10_planFrom staX10_planFrom q733 dX10_bestPlan_9 (by decide) (Nat.le_of_ble_eq_true rfl) (sX10_planFrom (m := m) hm m 45 0 a _ P Y _ _ (by omega) (by omega) (by omega) rfl ht (fun i h1 h2 => TF_u2 (hT i h1 h2) (by omega)) (by unfold hereT; omega) hF (by rw [eA]; exact hI) (by rw [eA]; exact hW) (by omega) (by rw [e6]; omega)) (fun I3 P3 L3 hq3 => ?_)
  obtain ⟨⟨hS3, hO3, hOP3, ht3, hT3, rfl⟩, hg3⟩ := hq3
  rw [eA, eS] at hS3
  refine r_aload_n (pc := 12) dX10_bestPlan_12 rfl ?_
  refine r_getI (pc := 13) dX10_bestPlan_13 frX10_37 (by assumption) ?_
  try simp only [u2_app, true_and, and_true, and_false, false_and, and_self, Nat.reduceEqDiff, ↓reduceIte]
  refine t_iret (pc := 16) dX10_bestPlan_16 rfl rfl ?_
  exact ⟨congrArg (fun S : PS => S.1) hS3, hS3, fun x h1 h2 h3 h4 => (hO3 x h1 h2 h3 h4).trans (by funext j; exact u2_a _ _ _ _ h1), hOP3, ht3, hT3, rfl⟩
def calmR (p : Int) : Nat → (Nat → Int) → Int
  | 0, _ => 1
  | y + 1, T => if noonF T (T 1) = true then (if wantF T true = 0 then p * calmR p y (goF T true) else 0) + (if wantF T false = 0 then (10 - p) * calmR p y (goF T false) else 0) else if 0 < wantF T false then 0 else calmR p y (goF T false)
theorem go_1 (F : Nat → Int) (b : Bool) : goF F b 1 = F 1 + 1 := by unfold goF; rw [up_s]
theorem noon_go (F : Nat → Int) (b : Bool) (y : Int) : noonF (goF F b) y = noonF F y := by unfold noonF; rw [fx_go F b (by unfold fixd; omega) (by omega)]
theorem noons_go (F : Nat → Int) (b : Bool) : ∀ y, noonsF F (y + 1) = (if noonF F (F 1) = true then 1 else 0) + noonsF (goF F b) y := by
  intro y
  induction y with
  | zero => simp [noonsF]
  | succ y ih =>
    rw [noonsF, ih, noonsF, noon_go, go_1, show F 1 + ((y + 1 : Nat) : Int) = F 1 + 1 + (y : Int) by omega]
    omega
/-- what the ways without want leave -/
def outC (D : Nat) (I I1 : MI) (t : Nat) : Prop := ∀ x, (x < t + 6 + 10 * D ∨ t + 96 ≤ x) → I1 x = I x
def outCP (D : Nat) (P P1 : MP) (t : Nat) : Prop := ∀ x, (x < t + 6 + 10 * D ∨ t + 96 ≤ x) → P1 x = P x
theorem outC.tr {D D2 : Nat} {I I1 I2 : MI} {t : Nat} (h : outC D I I1 t) (h2 : outC D2 I1 I2 t) (hd : D ≤ D2 := by omega) : outC D I I2 t := fun x h3 => (h2 x (by omega)).trans (h x h3)
theorem outC.f {D : Nat} {I I1 I2 : MI} {t b : Nat} (h : outC D I I1 t) (h2 : outF I1 I2 b) (hb : t + 6 + 10 * D ≤ b := by omega) (hb2 : b + 10 ≤ t + 96 := by omega) : outC D I I2 t := fun x h3 => (h2 x (by omega)).trans (h x h3)
theorem outCP.tr {D D2 : Nat} {P P1 P2 : MP} {t : Nat} (h : outCP D P P1 t) (h2 : outCP D2 P1 P2 t) (hd : D ≤ D2 := by omega) : outCP D P P2 t := fun x h3 => (h2 x (by omega)).trans (h x h3)
theorem outCP.f {D : Nat} {P P1 P2 : MP} {t b : Nat} (h : outCP D P P1 t) (h2 : outP P1 P2 b) (hb : t + 6 + 10 * D ≤ b := by omega) (hb2 : b + 10 ≤ t + 96 := by omega) : outCP D P P2 t := fun x h3 => (h2 x (by omega)).trans (h x h3)
theorem rdF_oC {D : Nat} {I I1 : MI} {t a : Nat} (h : outC D I I1 t) (ha : a + 10 ≤ t + 6 + 10 * D := by omega) : rdF I1 a = rdF I a := by
  funext k
  simp only [rdF]
  rw [h a (by omega)]
  by_cases h7 : k < 7
  · rw [if_pos h7, if_pos h7]
  rw [if_neg h7, if_neg h7]
  by_cases h31 : k < 31
  · rw [if_pos h31, if_pos h31, h _ (by omega)]
  rw [if_neg h31, if_neg h31]
theorem WayL_oC {D : Nat} {C : CF} {P P1 : MP} {t a : Nat} {F : Nat → Int} (h : WayL C P a F) (ho : outCP D P P1 t) (ha : a + 10 ≤ t + 6 + 10 * D := by omega) : WayL C P1 a F := by
  intro f hf
  rw [ho (a + 4 + f) (by omega)]
  exact h f hf
theorem TrialsL.at {G : WG} {C : CF} {P : MP} {t D : Nat} (h : TrialsL G C P t) (hD : D < 9) : FarmL G C P (t + 6 + 10 * D) := by
  obtain ⟨-, -, -, -, -, -, -, -, -, -, -, -, -, hf, hp⟩ := h
  by_cases h0 : D = 0
  · subst h0; exact hf
  · have := (hp (D - 1) (by omega)).1
    rw [show t + 16 + 10 * (D - 1) = t + 6 + 10 * D by omega] at this
    exact this
def QCa (G : WG) (t D : Nat) (e : Int) (I : MI) (C : CF) (P : MP) (L : ML) : Int → MI → MP → ML → Prop := fun r I1 P1 L1 => r = e ∧ outC D I I1 t ∧ outCP D P P1 t ∧ TrialsL G C P1 t ∧ (∀ i, D ≤ i → i < 9 → TF C I1 P1 (t + 6 + 10 * i)) ∧ L = L1
theorem sX10_calmFrom {G : WG} {C : CF} {L : ML} {t : Nat} {p : Int} (hp : 0 ≤ p ∧ p ≤ 10) : ∀ (k rk D a y : Nat) (I : MI) (P : MP) (Y u v : Int), a = t + 6 + 10 * D → D + k ≤ 8 → 5 + k ≤ rk → u = (D : Int) → v = (y : Int) → y ≤ 60 → TrialsL G C P t → (∀ i, D ≤ i → i < 9 → TF C I P (t + 6 + 10 * i)) → FI (rdF I a) Y → Y + y ≤ 999000 → noonsF (trF (rdF I a)) y = (k : Int) → SX10_calmFrom G rk [.ref (t + 1), .ref a, .int (zI u), .int (zI v), .int (zI p)] C I P L (NL C (QCa G t D (calmR p y (trF (rdF I a))) I C P L)) := by
  intro k
  induction k using Nat.strongRecOn with
  | _ k ihk =>
  intro rk D a y I P Y u v ha hD hrk hu hv hy ht hT hI hY hk
  subst hu hv ha
  obtain ⟨h0, hK, hK1, hK2, hK3, hK4, hK5, hP0, hP1, hP2, hP3, hP4, hP5, hf, hp8⟩ := id ht
  have hFa := ht.at (D := D) (by omega)
  have hKa := hFa.2.1
  generalize hTT : trF (rdF I (t + 6 + 10 * D)) = T at hk ⊢
  generalize hq : QCa G t D (calmR p y T) I C P L = q
  refine en_L (by decide +kernel) (Nat.le_of_ble_eq_true rfl) ?_
  change Wd _ _ _ _ _ _ _ _ 0 [some _, some _, some _, some _, some _, none, none, none, none] [] _ _ _ _
  have fin0 : ∀ (i : Int) (I1 : MI), outC D I I1 t → (∀ i, D ≤ i → i < 9 → TF C I1 P (t + 6 + 10 * i)) → calmR p y T = 1 → Wd G yX10_calmFrom cX10_calmFrom 9 (some .long) rk (C.2.1 + 0, C.2.2 + 0) (NL C q) 42 [some (.ref (t + 1)), some (.ref (t + 6 + 10 * D)), some (.int (zI (D : Int))), some (.int (zI (y : Int))), some (.int (zI p)), some (.int (zI 0)), some (.int (zI i)), none, none] [] C I1 P L := by
    intro i I1 hO hTF hc
    refine r_iload (pc := 42) dX10_calmFrom_42 rfl ?_
    refine r_if_ne (pc := 44) 49 dX10_calmFrom_44 (by decide) (by omega) (fun h44 => ?_) (fun h44 => ?_)
    · exfalso; omega
    · skip
      refine r_lconst (v := 1) (pc := 47) dX10_calmFrom_47 (by decide) ?_
      refine t_lret (pc := 48) dX10_calmFrom_48 rfl ?_
      subst hq; exact ⟨hc.symm, hO, fun _ _ => rfl, ht, hTF, rfl⟩
  have part2 : ∀ (l : Nat) (left w Z : Int) (T1 : Nat → Int) (I2 : MI) (P2 : MP), left = ((l + 1 : Nat) : Int) → l + 1 ≤ y → D < 8 → outC D I I2 t → outCP D P P2 t → TrialsL G C P2 t → (∀ i, D ≤ i → i < 9 → TF C I2 P2 (t + 6 + 10 * i)) → trF (rdF I2 (t + 6 + 10 * D)) = T1 → FI (rdF I2 (t + 6 + 10 * D)) Z → Z + (l + 1 : Nat) ≤ 999000 → 1 ≤ k → noonsF (goF T1 false) l = ((k - 1 : Nat) : Int) → calmR p y T = w + (if wantF T1 false = 0 then (10 - p) * calmR p l (goF T1 false) else 0) → Wd G yX10_calmFrom cX10_calmFrom 9 (some .long) rk (C.2.1 + 0, C.2.2 + 0) (NL C q) 105 [some (.ref (t + 1)), some (.ref (t + 6 + 10 * D)), some (.int (zI (D : Int))), some (.int (zI (y : Int))), some (.int (zI p)), some (.int (zI left)), some (.ref (t + 16 + 10 * D)), some (.long (zL w)), none] [] C I2 P2 L := by
    intro l left w Z T1 I2 P2 hl hly hD8 hO hOP ht2 hTF htr hFI hZ hk1 hnn hc
    have hF2 := ht2.at (D := D) (by omega)
    have hb2 := (ht2.2.2.2.2.2.2.2.2.2.2.2.2.2.2 D hD8).1
    have hW2 := (hTF D (Nat.le_refl D) (by omega)).1
    have hTb : TF C I2 P2 (t + 16 + 10 * D) := by
      have h := hTF (D + 1) (by omega) (by omega)
      rwa [show t + 6 + 10 * (D + 1) = t + 16 + 10 * D by omega] at h
    have hWb := hTb.1
    have hKb := hb2.2.1
    refine r_aload (pc := 105) dX10_calmFrom_105 rfl ?_
    refine r_aload_n (pc := 107) dX10_calmFrom_107 rfl ?_
    refine i_V1vg (pc := 108) okX2_setTo inX2_setTo selX2_setTo q744 dX10_calmFrom_108 (by assumption) rfl (by omega) (Nat.le_of_ble_eq_true rfl) (sX2_setTo (Y := Z)) (fun I3 P3 L3 hq3 => ?_)
    obtain ⟨hT3, hO3, hOP3, hW3, rfl⟩ := hq3
    have ht3 : TrialsL G C P3 t := ht2.p hOP3 (Or.inr (Or.inr ⟨1 + D, by omega, by omega⟩))
    have hb3 := (ht3.2.2.2.2.2.2.2.2.2.2.2.2.2.2 D hD8).1
    have hFI3 : FI (rdF I3 (t + 16 + 10 * D)) Z := by rw [hT3]; exact FI_set hTb.2 hFI
    have hW3' : WayL C P3 (t + 16 + 10 * D) (rdF I3 (t + 16 + 10 * D)) := by rw [hT3]; exact hW3
    have htr3 : trF (rdF I3 (t + 16 + 10 * D)) = T1 := by rw [hT3, trF_set, htr]
    have hwr := wantF_in hFI3 false
    have hwe : wantF (rdF I3 (t + 16 + 10 * D)) false = wantF T1 false := by rw [← htr3, trF_want (sizeF_le hFI3).1]
    refine r_aload (pc := 111) dX10_calmFrom_111 rfl ?_
    refine r_iconst (pc := 113) dX10_calmFrom_113 ?_
    refine i_V1ig (pc := 114) okX2_goBy inX2_goBy selX2_goBy q749 dX10_calmFrom_114 (by assumption) rfl (by omega) (Nat.le_of_ble_eq_true rfl) (sX2_goBy (bad := false) (Y := Z)) (fun r5 I5 P5 L5 hq5 => ?_)
    obtain ⟨rfl, hT5, hO5, rfl, rfl⟩ := hq5
    have hFI5 : FI (rdF I5 (t + 16 + 10 * D)) (Z + 1) := by rw [hT5]; exact FI_go hFI3 false
    have hW5 : WayL C P3 (t + 16 + 10 * D) (rdF I5 (t + 16 + 10 * D)) := by rw [hT5]; exact way_fx hW3' (fun k hk => fx_go _ _ (by unfold fixd; omega) (by omega))
    have htr5 : trF (rdF I5 (t + 16 + 10 * D)) = goF T1 false := by rw [hT5, trF_go (sizeF_le hFI3).1, htr3]
    have hO35 := hO3.tr hO5
    have hT5' : ∀ i, D ≤ i → i < 9 → TF C I5 P3 (t + 6 + 10 * i) := fun i h1 h2 => by
      by_cases hiD : i = D + 1
      · subst hiD
        rw [show t + 6 + 10 * (D + 1) = t + 16 + 10 * D by omega]
        exact ⟨hW5, FI_le hFI5 (by omega)⟩
      · exact TF_f (hTF i h1 h2) hO35 hOP3 (by omega)
    refine r_if_ne (pc := 117) 147 dX10_calmFrom_117 (by decide) (by omega) (fun h117 => ?_) (fun h117 => ?_)
    · skip
      refine r_lload (pc := 147) dX10_calmFrom_147 rfl ?_
      refine t_lret (pc := 149) dX10_calmFrom_149 rfl ?_
      subst hq
      first
        | exact ⟨by rw [hc, if_pos (by rw [← hwe]; exact h117), hr6, htr5], (hO.f hO35).tr hO6, (hOP.f hOP3).tr hOP6, ht6, hT6', rfl⟩
        | exact ⟨by rw [hc, if_neg (by rw [← hwe]; exact h117)]; omega, hO.f hO35, hOP.f hOP3, ht3, hT5', rfl⟩
    · skip
      refine r_lload (pc := 120) dX10_calmFrom_120 rfl ?_
      refine r_bipush (pc := 122) dX10_calmFrom_122 (by decide) ?_
      refine r_iload (pc := 124) dX10_calmFrom_124 rfl ?_
      refine r_isub (pc := 126) dX10_calmFrom_126 ?_
      refine r_i2l (pc := 127) dX10_calmFrom_127 (by omega) ?_
      refine r_aload_n (pc := 128) dX10_calmFrom_128 rfl ?_
      refine r_aload (pc := 129) dX10_calmFrom_129 rfl ?_
      refine r_iload_n (pc := 131) dX10_calmFrom_131 rfl ?_
      refine r_iconst (pc := 132) dX10_calmFrom_132 ?_
      refine r_iadd (pc := 133) dX10_calmFrom_133 ?_
      refine r_iload (pc := 134) dX10_calmFrom_134 rfl ?_
      refine r_iconst (pc := 136) dX10_calmFrom_136 ?_
      refine r_isub (pc := 137) dX10_calmFrom_137 ?_
      refine r_iload (pc := 138) dX10_calmFrom_138 rfl ?_
      refine i_S5lg (pc := 140) okX10_calmFrom staX10_calmFrom q785 dX10_calmFrom_140 (by omega) (Nat.le_of_ble_eq_true rfl) (ihk (k - 1) (by omega) (4 + k) (D + 1) (t + 16 + 10 * D) l I5 P3 (Z + 1) _ _ (by omega) (by omega) (by omega) (by omega) (by omega) (by omega) ht3 (fun i h1 h2 => hT5' i (by omega) h2) hFI5 (by omega) (by rw [htr5]; exact hnn)) (fun r6 I6 P6 L6 hq6 => ?_)
      obtain ⟨hr6, hO6, hOP6, ht6, hT6, rfl⟩ := hq6
      have hT6' : ∀ i, D ≤ i → i < 9 → TF C I6 P6 (t + 6 + 10 * i) := fun i h1 h2 => by
        by_cases hiD : i = D
        · subst hiD
          have h := hT5' i h1 h2
          unfold TF at *
          rw [rdF_oC hO6]
          exact ⟨WayL_oC h.1 hOP6, h.2⟩
        · exact hT6 i (by omega) h2
      refine r_lmul (pc := 143) dX10_calmFrom_143 ?_
      refine r_ladd (pc := 144) dX10_calmFrom_144 ?_
      refine r_lstore (pc := 145) dX10_calmFrom_145 (by decide) ?_
      refine r_lload (pc := 147) dX10_calmFrom_147 rfl ?_
      refine t_lret (pc := 149) dX10_calmFrom_149 rfl ?_
      subst hq
      first
        | exact ⟨by rw [hc, if_pos (by rw [← hwe]; exact h117), hr6, htr5], (hO.f hO35).tr hO6, (hOP.f hOP3).tr hOP6, ht6, hT6', rfl⟩
        | exact ⟨by rw [hc, if_neg (by rw [← hwe]; exact h117)]; omega, hO.f hO35, hOP.f hOP3, ht3, hT5', rfl⟩
  have tail : ∀ (l : Nat) (left i Z : Int) (I1 : MI), left = ((l + 1 : Nat) : Int) → l + 1 ≤ y → outC D I I1 t → (∀ i, D ≤ i → i < 9 → TF C I1 P (t + 6 + 10 * i)) → FI (rdF I1 (t + 6 + 10 * D)) Z → Z + (l + 1 : Nat) ≤ 999000 → noonsF (trF (rdF I1 (t + 6 + 10 * D))) (l + 1) = (k : Int) → noonF (rdF I1 (t + 6 + 10 * D)) (I1 (t + 6 + 10 * D) 5) = true → calmR p y T = calmR p (l + 1) (trF (rdF I1 (t + 6 + 10 * D))) → Wd G yX10_calmFrom cX10_calmFrom 9 (some .long) rk (C.2.1 + 0, C.2.2 + 0) (NL C q) 42 [some (.ref (t + 1)), some (.ref (t + 6 + 10 * D)), some (.int (zI (D : Int))), some (.int (zI (y : Int))), some (.int (zI p)), some (.int (zI left)), some (.int (zI i)), none, none] [] C I1 P L := by
    intro l left i Z I1 hl hly hO hTF hFI hZ hn hnoon hc
    have hs6 := (sizeF_le hFI).1
    generalize htr : trF (rdF I1 (t + 6 + 10 * D)) = T1 at hn hc
    have hno1 : noonF T1 (T1 1) = true := by rw [← htr, trF_a _ (by omega), trF, tr_noon]; exact hnoon
    have hkk : ∀ b, 1 ≤ k ∧ noonsF (goF T1 b) l = ((k - 1 : Nat) : Int) := by
      intro b
      have h1 := noons_go T1 b l
      have h2 := noonsF_in (goF T1 b) l
      rw [hno1, hn] at h1
      simp only [if_true] at h1
      omega
    have hD8 : D < 8 := by have := (hkk true).1; omega
    rw [calmR, if_pos hno1] at hc
    have hF2 := ht.at (D := D) (by omega)
    have hb2 := (hp8 D hD8).1
    have hPb := (hp8 D hD8).2
    have hW2 := (hTF D (Nat.le_refl D) (by omega)).1
    have hTb : TF C I1 P (t + 16 + 10 * D) := by
      have h := hTF (D + 1) (by omega) (by omega)
      rwa [show t + 6 + 10 * (D + 1) = t + 16 + 10 * D by omega] at h
    have hWb := hTb.1
    have hKb := hb2.2.1
    refine r_iload (pc := 42) dX10_calmFrom_42 rfl ?_
    refine r_if_ne (pc := 44) 49 dX10_calmFrom_44 (by decide) (by omega) (fun h44 => ?_) (fun h44 => ?_)
    · skip
      refine r_aload_n (pc := 49) dX10_calmFrom_49 rfl ?_
      refine r_iload_n (pc := 50) dX10_calmFrom_50 rfl ?_
      refine i_SN2rx (pc := 51) okX11_farmAt staX11_farmAt nwX10_56 dX10_calmFrom_51 (by omega) (Nat.le_of_ble_eq_true rfl) (sX11_farmAt (n := 8) (i := D)) ?_
      refine r_astore (pc := 54) dX10_calmFrom_54 (by decide) ?_
      refine r_aload (pc := 56) dX10_calmFrom_56 rfl ?_
      refine r_ifnonnull (pc := 58) 63 dX10_calmFrom_58 (by decide) ?_
      refine r_lconst (v := 0) (pc := 63) dX10_calmFrom_63 (by decide) ?_
      refine r_lstore (pc := 64) dX10_calmFrom_64 (by decide) ?_
      refine r_aload (pc := 66) dX10_calmFrom_66 rfl ?_
      refine r_aload_n (pc := 68) dX10_calmFrom_68 rfl ?_
      refine i_V1vg (pc := 69) okX2_setTo inX2_setTo selX2_setTo q744 dX10_calmFrom_69 (by assumption) rfl (by omega) (Nat.le_of_ble_eq_true rfl) (sX2_setTo (Y := Z)) (fun I3 P3 L3 hq3 => ?_)
      obtain ⟨hT3, hO3, hOP3, hW3, rfl⟩ := hq3
      have ht3 : TrialsL G C P3 t := ht.p hOP3 (Or.inr (Or.inr ⟨1 + D, by omega, by omega⟩))
      have hb3 := (ht3.2.2.2.2.2.2.2.2.2.2.2.2.2.2 D hD8).1
      have hFI3 : FI (rdF I3 (t + 16 + 10 * D)) Z := by rw [hT3]; exact FI_set hTb.2 hFI
      have hW3' : WayL C P3 (t + 16 + 10 * D) (rdF I3 (t + 16 + 10 * D)) := by rw [hT3]; exact hW3
      have htr3 : trF (rdF I3 (t + 16 + 10 * D)) = T1 := by rw [hT3, trF_set, htr]
      have hwr := wantF_in hFI3 true
      have hwe : wantF (rdF I3 (t + 16 + 10 * D)) true = wantF T1 true := by rw [← htr3, trF_want (sizeF_le hFI3).1]
      refine r_aload (pc := 72) dX10_calmFrom_72 rfl ?_
      refine r_iconst (pc := 74) dX10_calmFrom_74 ?_
      refine i_V1ig (pc := 75) okX2_goBy inX2_goBy selX2_goBy q749 dX10_calmFrom_75 (by assumption) rfl (by omega) (Nat.le_of_ble_eq_true rfl) (sX2_goBy (bad := true) (Y := Z)) (fun r5 I5 P5 L5 hq5 => ?_)
      obtain ⟨rfl, hT5, hO5, rfl, rfl⟩ := hq5
      have hFI5 : FI (rdF I5 (t + 16 + 10 * D)) (Z + 1) := by rw [hT5]; exact FI_go hFI3 true
      have hW5 : WayL C P3 (t + 16 + 10 * D) (rdF I5 (t + 16 + 10 * D)) := by rw [hT5]; exact way_fx hW3' (fun k hk => fx_go _ _ (by unfold fixd; omega) (by omega))
      have htr5 : trF (rdF I5 (t + 16 + 10 * D)) = goF T1 true := by rw [hT5, trF_go (sizeF_le hFI3).1, htr3]
      have hO35 := hO3.tr hO5
      have eA5 : rdF I5 (t + 6 + 10 * D) = rdF I1 (t + 6 + 10 * D) := rdF_out hO35 (by omega)
      have hT5' : ∀ i, D ≤ i → i < 9 → TF C I5 P3 (t + 6 + 10 * i) := fun i h1 h2 => by
        by_cases hiD : i = D + 1
        · subst hiD
          rw [show t + 6 + 10 * (D + 1) = t + 16 + 10 * D by omega]
          exact ⟨hW5, FI_le hFI5 (by omega)⟩
        · exact TF_f (hTF i h1 h2) hO35 hOP3 (by omega)
      refine r_if_ne (pc := 78) 105 dX10_calmFrom_78 (by decide) (by omega) (fun h78 => ?_) (fun h78 => ?_)
      · skip
        refine part2 l _ _ Z T1 _ _ hl hly hD8 (hO.f hO35) (outCP.f (fun _ _ => rfl) hOP3) ht3 hT5' (by rw [eA5]; exact htr) (by rw [eA5]; exact hFI) hZ (hkk false).1 (hkk false).2 ?_
        rw [hc, if_neg (by rw [← hwe]; exact h78)]
      · skip
        refine r_lload (pc := 81) dX10_calmFrom_81 rfl ?_
        refine r_iload (pc := 83) dX10_calmFrom_83 rfl ?_
        refine r_i2l (pc := 85) dX10_calmFrom_85 (by omega) ?_
        refine r_aload_n (pc := 86) dX10_calmFrom_86 rfl ?_
        refine r_aload (pc := 87) dX10_calmFrom_87 rfl ?_
        refine r_iload_n (pc := 89) dX10_calmFrom_89 rfl ?_
        refine r_iconst (pc := 90) dX10_calmFrom_90 ?_
        refine r_iadd (pc := 91) dX10_calmFrom_91 ?_
        refine r_iload (pc := 92) dX10_calmFrom_92 rfl ?_
        refine r_iconst (pc := 94) dX10_calmFrom_94 ?_
        refine r_isub (pc := 95) dX10_calmFrom_95 ?_
        refine r_iload (pc := 96) dX10_calmFrom_96 rfl ?_
        refine i_S5lg (pc := 98) okX10_calmFrom staX10_calmFrom q785 dX10_calmFrom_98 (by omega) (Nat.le_of_ble_eq_true rfl) (ihk (k - 1) (by have := (hkk true).1; omega) (4 + k) (D + 1) (t + 16 + 10 * D) l I5 P3 (Z + 1) _ _ (by omega) (by have := (hkk true).1; omega) (by have := (hkk true).1; omega) (by omega) (by omega) (by omega) ht3 (fun i h1 h2 => hT5' i (by omega) h2) hFI5 (by omega) (by rw [htr5]; exact (hkk true).2)) (fun r6 I6 P6 L6 hq6 => ?_)
        obtain ⟨hr6, hO6, hOP6, ht6, hT6, rfl⟩ := hq6
        have hT6' : ∀ i, D ≤ i → i < 9 → TF C I6 P6 (t + 6 + 10 * i) := fun i h1 h2 => by
          by_cases hiD : i = D
          · subst hiD
            have h := hT5' i h1 h2
            unfold TF at *
            rw [rdF_oC hO6]
            exact ⟨WayL_oC h.1 hOP6, h.2⟩
          · exact hT6 i (by omega) h2
        have eA6 : rdF I6 (t + 6 + 10 * D) = rdF I1 (t + 6 + 10 * D) := by rw [rdF_oC hO6, eA5]
        refine r_lmul (pc := 101) dX10_calmFrom_101 ?_
        refine r_ladd (pc := 102) dX10_calmFrom_102 ?_
        refine r_lstore (pc := 103) dX10_calmFrom_103 (by decide) ?_
        refine part2 l _ _ Z T1 _ _ hl hly hD8 ((hO.f hO35).tr hO6) ((outCP.f (fun _ _ => rfl) hOP3).tr hOP6) ht6 hT6' (by rw [eA6]; exact htr) (by rw [eA6]; exact hFI) hZ (hkk false).1 (hkk false).2 ?_
        rw [hc, if_pos (by rw [← hwe]; exact h78), hr6, htr5]
        omega
    · exfalso; omega
  have loop : ∀ (d f : Nat) (i left : Int) (I1 : MI), f + d = y → i = (f : Int) → left = (d : Int) → outC D I I1 t → (∀ i, D ≤ i → i < 9 → TF C I1 P (t + 6 + 10 * i)) → FI (rdF I1 (t + 6 + 10 * D)) (Y + f) → noonsF (trF (rdF I1 (t + 6 + 10 * D))) d = (k : Int) → calmR p y T = calmR p d (trF (rdF I1 (t + 6 + 10 * D))) → Wd G yX10_calmFrom cX10_calmFrom 9 (some .long) rk (C.2.1 + 0, C.2.2 + 0) (NL C q) 6 [some (.ref (t + 1)), some (.ref (t + 6 + 10 * D)), some (.int (zI (D : Int))), some (.int (zI (y : Int))), some (.int (zI p)), some (.int (zI left)), some (.int (zI i)), none, none] [] C I1 P L := by
    intro d
    induction d using Nat.strongRecOn with
    | _ d ih =>
      intro f i left I1 hd hi hl hO hTF hFI hn hc
      have hW1 := (hTF D (Nat.le_refl D) (by omega)).1
      have hs6 := (sizeF_le hFI).1
      have hy5 : 0 ≤ I1 (t + 6 + 10 * D) 5 ∧ I1 (t + 6 + 10 * D) 5 ≤ Y + f := hFI.2.1
      have hsp : 2 ≤ I1 (t + 6 + 10 * D) 4 ∧ I1 (t + 6 + 10 * D) 4 ≤ 70 := hFI.1
      have hwr := wantF_in hFI false
      generalize htr : trF (rdF I1 (t + 6 + 10 * D)) = T1 at hn hc
      have hno1 : noonF T1 (T1 1) = noonF (rdF I1 (t + 6 + 10 * D)) (I1 (t + 6 + 10 * D) 5) := by rw [← htr, trF_a _ (by omega), trF, tr_noon]; rfl
      have hwe : wantF (rdF I1 (t + 6 + 10 * D)) false = wantF T1 false := by rw [← htr, trF_want hs6]
      refine r_iload (pc := 6) dX10_calmFrom_6 rfl ?_
      refine r_iload_n (pc := 8) dX10_calmFrom_8 rfl ?_
      refine r_icmp_ge (pc := 9) 42 dX10_calmFrom_9 (by decide) (by first | omega | exact iR_b _) (by first | omega | exact iR_b _) (fun h9 => ?_) (fun h9 => ?_)
      · skip
        obtain rfl : d = 0 := by omega
        subst hl
        exact fin0 _ _ hO hTF hc
      · skip
        refine r_aload_n (pc := 12) dX10_calmFrom_12 rfl ?_
        refine r_aload_n (pc := 13) dX10_calmFrom_13 rfl ?_
        refine r_getI (pc := 14) dX10_calmFrom_14 frX10_60 (by assumption) ?_
        refine i_V1ix (pc := 17) okX2_isNoon inX2_isNoon selX2_isNoon q742 dX10_calmFrom_17 (by assumption) rfl (by omega) (Nat.le_of_ble_eq_true rfl) (sX2_isNoon) ?_
        refine r_if_ne (pc := 20) 42 dX10_calmFrom_20 (by decide) (by first | omega | exact iR_b _) (fun h20 => ?_) (fun h20 => ?_)
        · skip
          obtain ⟨d, rfl⟩ : ∃ d', d = d' + 1 := ⟨d - 1, by omega⟩
          exact tail d _ _ (Y + f) I1 hl (by omega) hO hTF hFI (by omega) (by rw [htr]; exact hn) (by cases hz : noonF (rdF I1 (t + 6 + 10 * D)) (I1 (t + 6 + 10 * D) 5) <;> simp_all) (by rw [htr]; exact hc)
        · skip
          obtain ⟨d, rfl⟩ : ∃ d', d = d' + 1 := ⟨d - 1, by omega⟩
          have hnf : noonF T1 (T1 1) = false := by rw [hno1]; cases hz : noonF (rdF I1 (t + 6 + 10 * D)) (I1 (t + 6 + 10 * D) 5) <;> simp_all
          rw [calmR, if_neg (by rw [hnf]; decide)] at hc
          have hn2 := noons_go T1 false d
          rw [hnf, hn] at hn2
          simp only [Bool.false_eq_true, if_false] at hn2
          refine r_aload_n (pc := 23) dX10_calmFrom_23 rfl ?_
          refine r_iconst (pc := 24) dX10_calmFrom_24 ?_
          refine i_V1ig (pc := 25) okX2_goBy inX2_goBy selX2_goBy q749 dX10_calmFrom_25 (by assumption) rfl (by omega) (Nat.le_of_ble_eq_true rfl) (sX2_goBy (bad := false) (Y := Y + f)) (fun r5 I5 P5 L5 hq5 => ?_)
          obtain ⟨rfl, hT5, hO5, rfl, rfl⟩ := hq5
          have hFI5 : FI (rdF I5 (t + 6 + 10 * D)) (Y + f + 1) := by rw [hT5]; exact FI_go hFI false
          have hW5 : WayL C P (t + 6 + 10 * D) (rdF I5 (t + 6 + 10 * D)) := by rw [hT5]; exact way_fx hW1 (fun k hk => fx_go _ _ (by unfold fixd; omega) (by omega))
          have htr5 : trF (rdF I5 (t + 6 + 10 * D)) = goF T1 false := by rw [hT5, trF_go hs6, htr]
          have hT5' : ∀ i, D ≤ i → i < 9 → TF C I5 P (t + 6 + 10 * i) := fun i h1 h2 => by
            by_cases hiD : i = D
            · subst hiD; exact ⟨hW5, FI_le hFI5 (by omega)⟩
            · exact TF_f (hTF i h1 h2) hO5 (outP.rf P _) (by omega)
          refine r_if_le (pc := 28) 33 dX10_calmFrom_28 (by decide) (by first | omega | exact iR_b _) (fun h28 => ?_) (fun h28 => ?_)
          · skip
            refine r_iinc (pc := 33) dX10_calmFrom_33 rfl ?_
            refine r_iinc (pc := 36) dX10_calmFrom_36 rfl ?_
            refine r_goto (pc := 39) 6 dX10_calmFrom_39 (by decide) ?_
            exact ih d (by omega) (f + 1) _ _ _ (by omega) (by omega) (by omega) (hO.f hO5) hT5' (FI_le hFI5 (by omega)) (by rw [htr5]; omega) (by rw [htr5, hc, if_neg (by omega)])
          · skip
            refine r_lconst (v := 0) (pc := 31) dX10_calmFrom_31 (by decide) ?_
            refine t_lret (pc := 32) dX10_calmFrom_32 rfl ?_
            subst hq; exact ⟨by rw [hc, if_pos (by omega)], hO.f hO5, fun _ _ => rfl, ht, hT5', rfl⟩
  refine r_iload_n (pc := 0) dX10_calmFrom_0 rfl ?_
  refine r_istore (pc := 1) dX10_calmFrom_1 (by decide) ?_
  refine r_iconst (pc := 3) dX10_calmFrom_3 ?_
  refine r_istore (pc := 4) dX10_calmFrom_4 (by decide) ?_
  exact loop y 0 _ _ I (by omega) (by omega) (by omega) (fun _ _ => rfl) hT (FI_le hI (by omega)) (by rw [hTT]; exact hk) (by rw [hTT])

