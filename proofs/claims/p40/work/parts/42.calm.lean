/-! the best plan; the ways without want -/
theorem sX10_plannedJob {G : WG} {C : CF} {I : MI} {P : MP} {L : ML} {t j : Nat} {x : Int} (ht : TrialsL G C P t := by assumption) (hx : x = (j : Int) := by first | rfl | omega) (hj : j < 5 := by omega) : SX10_plannedJob G [.ref t, .int (zI x)] C I P L (NI C (XI (I (t + 3) j) I P L)) := by
  obtain ⟨h0, hK, hK1, hK2, hK3, hK4, hK5, hP0, hP1, hP2, hP3, hP4, hP5, hf, hp⟩ := id ht
  refine en_I (by decide +kernel) (Nat.le_of_ble_eq_true rfl) ?_
  change Wd _ _ _ _ _ _ _ _ 0 [some _, some _] [] _ _ _ _
  refine r_aload_n (pc := 0) dX10_plannedJob_0 rfl ?_
  refine r_getA (pc := 1) dX10_plannedJob_1 frX10_21 (by assumption) (by assumption) ?_
  refine r_iload_n (pc := 4) dX10_plannedJob_4 rfl ?_
  refine i_SN2ix (pc := 5) okX11_at staX11_at nwX10_45 dX10_plannedJob_5 (by decide) (Nat.le_of_ble_eq_true rfl) (sX11_at (n := 5) (j := j)) ?_
  refine t_iret (pc := 8) dX10_plannedJob_8 rfl rfl ?_
  exact ⟨rfl, rfl, rfl, rfl⟩
def planT (T : Nat → Int) (m : Nat) (tr0 pl0 : Nat → Int) : PS := planR m 0 T (-1, tr0, pl0)
theorem sX10_bestPlan {G : WG} {C : CF} {I : MI} {P : MP} {L : ML} {t a m : Nat} {Y x : Int} (ht : TrialsL G C P t := by assumption) (hT : ∀ i, 0 ≤ i → i < 8 → TF C I P (t + 16 + 10 * i) := by assumption) (hF : FarmL G C P a := by assumption) (hI : FI (rdF I a) Y := by assumption) (hW : WayL C P a (rdF I a) := by assumption) (hat : a + 10 ≤ t ∨ t + 96 ≤ a := by omega) (hY : Y ≤ 990000 := by omega) (hx : x = (m : Int) := by first | rfl | omega) (hm : m ≤ 5 := by omega) : SX10_bestPlan G [.ref t, .ref a, .int (zI x)] C I P L (NI C (fun r I1 P1 L1 => r = (planT (trF (rdF I a)) m (I (t + 2)) (I (t + 3))).1 ∧ QPl G t 0 I (planT (trF (rdF I a)) m (I (t + 2)) (I (t + 3))) C P L I1 P1 L1)) := by
  subst hx
  obtain ⟨h0, hK, -⟩ := id ht
  have e6 : (u2 I t 6 (-1)) t 6 = -1 := u2_s _ _ _ _
  have eA : rdF (u2 I t 6 (-1)) a = rdF I a := rdF_u2 _ (by omega)
  have eS : rdS (u2 I t 6 (-1)) t = (-1, I (t + 2), I (t + 3)) := by
    unfold rdS
    rw [e6]
    congr 2
    · funext j; rw [u2_a _ _ _ _ (by omega)]
    · funext j; rw [u2_a _ _ _ _ (by omega)]
  refine en_I (by decide +kernel) (Nat.le_of_ble_eq_true rfl) ?_
  change Wd _ _ _ _ _ _ _ _ 0 [some _, some _, some _] [] _ _ _ _
  refine r_aload_n (pc := 0) dX10_bestPlan_0 rfl ?_
  refine r_iconst (pc := 1) dX10_bestPlan_1 ?_
  refine r_putI (pc := 2) dX10_bestPlan_2 fwX10_37 (by assumption) (by omega) ?_
  refine r_aload_n (pc := 5) dX10_bestPlan_5 rfl ?_
  refine r_aload_n (pc := 6) dX10_bestPlan_6 rfl ?_
  refine r_iconst (pc := 7) dX10_bestPlan_7 ?_
  refine r_iload_n (pc := 8) dX10_bestPlan_8 rfl ?_
  refine i_S4vg (pc := 9) okX10_planFrom staX10_planFrom q533 dX10_bestPlan_9 (by decide) (Nat.le_of_ble_eq_true rfl) (sX10_planFrom (m := m) hm m 45 0 a _ P Y _ _ (by omega) (by omega) (by omega) rfl ht (fun i h1 h2 => TF_u2 (hT i h1 h2) (by omega)) (by unfold hereT; omega) hF (by rw [eA]; exact hI) (by rw [eA]; exact hW) (by omega) (by rw [e6]; omega)) (fun I3 P3 L3 hq3 => ?_)
  obtain ⟨⟨hS3, hO3, hOP3, ht3, hT3, rfl⟩, hg3⟩ := hq3
  rw [eA, eS] at hS3
  refine r_aload_n (pc := 12) dX10_bestPlan_12 rfl ?_
  refine r_getI (pc := 13) dX10_bestPlan_13 frX10_37 (by assumption) ?_
  try simp only [u2_app, true_and, and_true, and_false, false_and, and_self, Nat.reduceEqDiff, ↓reduceIte]
  refine t_iret (pc := 16) dX10_bestPlan_16 rfl rfl ?_
  exact ⟨congrArg (fun S : PS => S.1) hS3, hS3, fun x h1 h2 h3 h4 => (hO3 x h1 h2 h3 h4).trans (by funext j; exact u2_a _ _ _ _ h1), hOP3, ht3, hT3, rfl⟩
def calmR (p : Int) : Nat → (Nat → Int) → Int
  | 0, _ => 1
  | y + 1, T => if noonF T (T 1) = true then (if wantF T true = 0 then p * calmR p y (goF T true) else 0) + (if wantF T false = 0 then (10 - p) * calmR p y (goF T false) else 0) else if 0 < wantF T false then 0 else calmR p y (goF T false)
theorem go_1 (F : Nat → Int) (b : Bool) : goF F b 1 = F 1 + 1 := by unfold goF; rw [up_s]
theorem noon_go (F : Nat → Int) (b : Bool) (y : Int) : noonF (goF F b) y = noonF F y := by unfold noonF; rw [fx_go F b (by unfold fixd; omega) (by omega)]
theorem noons_go (F : Nat → Int) (b : Bool) : ∀ y, noonsF F (y + 1) = (if noonF F (F 1) = true then 1 else 0) + noonsF (goF F b) y := by
  intro y
  induction y with
  | zero => simp [noonsF]
  | succ y ih =>
    rw [noonsF, ih, noonsF, noon_go, go_1, show F 1 + ((y + 1 : Nat) : Int) = F 1 + 1 + (y : Int) by omega]
    omega
/-- what the ways without want leave -/
def outC (D : Nat) (I I1 : MI) (t : Nat) : Prop := ∀ x, (x < t + 6 + 10 * D ∨ t + 96 ≤ x) → I1 x = I x
def outCP (D : Nat) (P P1 : MP) (t : Nat) : Prop := ∀ x, (x < t + 6 + 10 * D ∨ t + 96 ≤ x) → P1 x = P x
theorem outC.tr {D D2 : Nat} {I I1 I2 : MI} {t : Nat} (h : outC D I I1 t) (h2 : outC D2 I1 I2 t) (hd : D ≤ D2 := by omega) : outC D I I2 t := fun x h3 => (h2 x (by omega)).trans (h x h3)
theorem outC.f {D : Nat} {I I1 I2 : MI} {t b : Nat} (h : outC D I I1 t) (h2 : outF I1 I2 b) (hb : t + 6 + 10 * D ≤ b := by omega) (hb2 : b + 10 ≤ t + 96 := by omega) : outC D I I2 t := fun x h3 => (h2 x (by omega)).trans (h x h3)
theorem outCP.tr {D D2 : Nat} {P P1 P2 : MP} {t : Nat} (h : outCP D P P1 t) (h2 : outCP D2 P1 P2 t) (hd : D ≤ D2 := by omega) : outCP D P P2 t := fun x h3 => (h2 x (by omega)).trans (h x h3)
theorem outCP.f {D : Nat} {P P1 P2 : MP} {t b : Nat} (h : outCP D P P1 t) (h2 : outP P1 P2 b) (hb : t + 6 + 10 * D ≤ b := by omega) (hb2 : b + 10 ≤ t + 96 := by omega) : outCP D P P2 t := fun x h3 => (h2 x (by omega)).trans (h x h3)
theorem rdF_oC {D : Nat} {I I1 : MI} {t a : Nat} (h : outC D I I1 t) (ha : a + 10 ≤ t + 6 + 10 * D := by omega) : rdF I1 a = rdF I a := by
  funext k
  simp only [rdF]
  rw [h a (by omega)]
  by_cases h7 : k < 7
  · rw [if_pos h7, if_pos h7]
  rw [if_neg h7, if_neg h7]
  by_cases h31 : k < 31
  · rw [if_pos h31, if_pos h31, h _ (by omega)]
  rw [if_neg h31, if_neg h31]
theorem WayL_oC {D : Nat} {C : CF} {P P1 : MP} {t a : Nat} {F : Nat → Int} (h : WayL C P a F) (ho : outCP D P P1 t) (ha : a + 10 ≤ t + 6 + 10 * D := by omega) : WayL C P1 a F := by
  intro f hf
  rw [ho (a + 4 + f) (by omega)]
  exact h f hf
theorem TrialsL.at {G : WG} {C : CF} {P : MP} {t D : Nat} (h : TrialsL G C P t) (hD : D < 9) : FarmL G C P (t + 6 + 10 * D) := by
  obtain ⟨-, -, -, -, -, -, -, -, -, -, -, -, -, hf, hp⟩ := h
  by_cases h0 : D = 0
  · subst h0; exact hf
  · have := (hp (D - 1) (by omega)).1
    rw [show t + 16 + 10 * (D - 1) = t + 6 + 10 * D by omega] at this
    exact this
def QCa (G : WG) (t D : Nat) (e : Int) (I : MI) (C : CF) (P : MP) (L : ML) : Int → MI → MP → ML → Prop := fun r I1 P1 L1 => r = e ∧ outC D I I1 t ∧ outCP D P P1 t ∧ TrialsL G C P1 t ∧ (∀ i, D ≤ i → i < 9 → TF C I1 P1 (t + 6 + 10 * i)) ∧ L = L1

