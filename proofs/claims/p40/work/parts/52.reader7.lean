/-! the whole text read -/
theorem argS_in (b : Nat → Int) (n item : Nat) (fam : Int) : ∀ k i a t, a ≤ n → a ≤ (argS b n item fam k i a t).2.2.1 ∧ (argS b n item fam k i a t).2.2.1 ≤ n ∧ (argS b n item fam k i a t).2.1 ≤ n := by
  intro k
  induction k with
  | zero => intro i a t h; simp only [argS]; omega
  | succ k ih =>
    intro i a t h
    have h1 := tok_in b h
    unfold argS
    split
    · have h2 := ih (i + 1) (tok b n a).2.1 (up t i (tokV b n a)) (by omega)
      omega
    · simp only []; omega
/-- what a reading leaves -/
def QRd (G : WG) (r l : Nat) (R : Int × (Nat → Int) × (Nat → Int)) (Y : Int) (I : MI) (C : CF) (P : MP) (L : ML) : Int → MI → MP → ML → Prop := fun v I1 P1 L1 => v = R.1 ∧ I1 r 2 = I r 2 ∧ rdL I1 l = (R.2.1, R.2.2, (rdL I l).2.2.1, 0, (rdL I l).2.2.2.2) ∧ (∀ x, x ≠ r → x ≠ r + 2 → (x < l ∨ l + 80 ≤ x) → I1 x = I x) ∧ outQ P P1 l ∧ LumpL G C P1 l ∧ WaysL C P1 l (R.2.1, R.2.2, (rdL I l).2.2.1, 0, (rdL I l).2.2.2.2) ∧ FI R.2.1 Y ∧ BI R.2.2 ∧ (∀ j, j < 3 → iR (I1 (r + 2) j)) ∧ L = L1
theorem ite_t {b : Bool} {r : Int} (h : r = if b = true then 1 else 0) (h2 : r ≠ 0) : b = true := by
  cases b with
  | true => rfl
  | false => exact absurd h h2
theorem ite_f {b : Bool} {r : Int} (h : r = if b = true then 1 else 0) (h2 : r = 0) : ¬ b = true := by
  cases b with
  | true => rw [h2] at h; exact absurd h (by decide)
  | false => decide
theorem sX5_beginB {G : WG} {C : CF} {I : MI} {P : MP} {L : ML} {l : Nat} {v : Int} (hl : LumpL G C P l := by assumption) : SX5_begin G [.ref l, .int (zI v)] C I P L (NV C (fun I1 P1 L1 => rdF I1 (l + 10) = begF (rdF I (l + 10)) v ∧ rdB I1 (l + 1) = begB (rdB I (l + 1)) ∧ I1 l 3 = I l 3 ∧ I1 l 4 = 0 ∧ (∀ x, (x < l ∨ l + 20 ≤ x ∨ x = l + 9) → I1 x = I x) ∧ P = P1 ∧ L = L1)) := by
  obtain ⟨h0, hK, hK9, hP0, hP1, hP2, hb, hf, hp⟩ := id hl
  have hK10 := hf.2.1
  have hK1 := hb.2.1
  refine en_V (by decide +kernel) (Nat.le_of_ble_eq_true rfl) ?_
  change Wd _ _ _ _ _ _ _ _ 0 [some _, some _] [] _ _ _ _
  refine r_aload_n (pc := 0) dX5_begin_0 rfl ?_
  refine r_getP (pc := 1) dX5_begin_1 frX5_27 (by assumption) (by assumption) ?_
  refine r_iload_n (pc := 4) dX5_begin_4 rfl ?_
  refine i_V1vg (pc := 5) okX2_begin inX2_begin selX2_begin q726 dX5_begin_5 (by assumption) rfl (by decide) (Nat.le_of_ble_eq_true rfl) (sX2_begin) (fun I2 P2 L2 hq2 => ?_)
  obtain ⟨hT2, hO2, rfl, rfl⟩ := hq2
  refine r_aload_n (pc := 8) dX5_begin_8 rfl ?_
  refine r_getP (pc := 9) dX5_begin_9 frX5_12 (by assumption) (by assumption) ?_
  refine i_V0vg (pc := 12) okX0_begin inX0_begin selX0_begin q730 dX5_begin_12 (by assumption) rfl (by decide) (Nat.le_of_ble_eq_true rfl) (sX0_begin) (fun I3 P3 L3 hq3 => ?_)
  obtain ⟨hT3, hO3, rfl, rfl⟩ := hq3
  refine r_aload_n (pc := 15) dX5_begin_15 rfl ?_
  refine r_iconst (pc := 16) dX5_begin_16 ?_
  refine r_putI (pc := 17) dX5_begin_17 fwX5_37 (by assumption) (by omega) ?_
  refine t_vret (pc := 20) dX5_begin_20 rfl ?_
  refine ⟨?_, ?_, ?_, ?_, fun x hx => ?_, rfl, rfl⟩
  · rw [rdF_u2 _ (by omega), rdF_oB hO3, hT2]
  · rw [rdB_u2 _ (by omega), hT3, rdB_oF hO2]
  · rw [u2_k _ _ _ _ (by decide), hO3 l (by omega), hO2 l (by omega)]
  · rw [u2_s]
  · funext j
    rw [u2_a _ _ _ _ (by omega), hO3 x (by omega), hO2 x (by omega)]
theorem BI_beg {B : Nat → Int} (h : BI B) : BI (begB B) := by
  obtain ⟨b0, b1, b2, b3, b4, b5, b6⟩ := h
  refine ⟨by show (0 : Int) ≤ 0 ∧ (0 : Int) ≤ 50; omega, by show (0 : Int) ≤ 0 ∧ (0 : Int) ≤ 8; omega, by show (0 : Int) ≤ 0 ∧ (0 : Int) ≤ 10; omega, by show (0 : Int) ≤ 0 ∧ (0 : Int) ≤ 4; omega, fun d hd => ?_, fun r hr => ?_, fun i hi => ?_⟩
  · have h4 := b4 d hd
    unfold begB
    refine ⟨?_, ?_, ?_⟩
    · simp only [up_app]; (repeat' split) <;> omega
    · simp only [up_app]; (repeat' split) <;> omega
    · simp only [up_app]; (repeat' split) <;> omega
  · have h5 := b5 r hr
    unfold begB
    refine ⟨?_, ?_, ?_⟩
    · simp only [up_app]; (repeat' split) <;> omega
    · simp only [up_app]; (repeat' split) <;> omega
    · simp only [up_app]; (repeat' split) <;> omega
  · have h6 := b6 i hi
    unfold begB
    simp only [up_app]; (repeat' split) <;> omega

