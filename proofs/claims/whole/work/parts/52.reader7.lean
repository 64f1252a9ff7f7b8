/-! the whole text read -/
def readS (b : Nat → Int) (n : Nat) : Nat → Nat → Nat → (Nat → Int) → (Nat → Int) → (Nat → Int) → Int × (Nat → Int) × (Nat → Int)
  | 0, _, _, F, B, _ => (0, F, B)
  | d + 1, m, a, F, B, t => if (tok b n a).2.2 = 0 ∧ 0 < m then ((m : Int), F, B) else
      if (itemS b n (tok b n a).1 (tok b n a).2.1 (tok b n a).2.2 (decide (m = 0)) F B t).1 = true then readS b n d (m + 1) (itemS b n (tok b n a).1 (tok b n a).2.1 (tok b n a).2.2 (decide (m = 0)) F B t).2.2.1 (itemS b n (tok b n a).1 (tok b n a).2.1 (tok b n a).2.2 (decide (m = 0)) F B t).2.2.2.1 (itemS b n (tok b n a).1 (tok b n a).2.1 (tok b n a).2.2 (decide (m = 0)) F B t).2.2.2.2.1 (itemS b n (tok b n a).1 (tok b n a).2.1 (tok b n a).2.2 (decide (m = 0)) F B t).2.2.2.2.2
      else (-10 - ((itemS b n (tok b n a).1 (tok b n a).2.1 (tok b n a).2.2 (decide (m = 0)) F B t).2.1 : Int), (itemS b n (tok b n a).1 (tok b n a).2.1 (tok b n a).2.2 (decide (m = 0)) F B t).2.2.2.1, (itemS b n (tok b n a).1 (tok b n a).2.1 (tok b n a).2.2 (decide (m = 0)) F B t).2.2.2.2.1)
theorem argS_in (b : Nat → Int) (n item : Nat) (fam : Int) : ∀ k i a t, a ≤ n → a ≤ (argS b n item fam k i a t).2.2.1 ∧ (argS b n item fam k i a t).2.2.1 ≤ n ∧ (argS b n item fam k i a t).2.1 ≤ n := by
  intro k
  induction k with
  | zero => intro i a t h; simp only [argS]; omega
  | succ k ih =>
    intro i a t h
    have h1 := tok_in b h
    unfold argS
    split
    · have h2 := ih (i + 1) (tok b n a).2.1 (up t i (tokV b n a)) (by omega)
      omega
    · simp only []; omega
theorem itemS_in (b : Nat → Int) {n s e : Nat} (so : Int) (f : Bool) (F B t : Nat → Int) (h : s ≤ e ∧ e ≤ n) : (itemS b n s e so f F B t).2.1 ≤ n ∧ (itemS b n s e so f F B t).2.2.1 ≤ n ∧ ((itemS b n s e so f F B t).1 = true → e < (itemS b n s e so f F B t).2.2.1) := by
  unfold itemS
  split
  · exact ⟨by simp only []; omega, by simp only []; omega, fun h => by cases h⟩
  · have h1 := argS_in b n (itemB b s e so).toNat (F 6) (atT numsT (itemB b s e so).toNat).toNat 0 e t h.2
    generalize argS b n (itemB b s e so).toNat (F 6) (atT numsT (itemB b s e so).toNat).toNat 0 e t = A at *
    have h2 := tok_in b h1.2.1
    unfold endS
    split
    · split
      · next hz => exact ⟨by simp only []; omega, by simp only []; omega, fun _ => by simp only []; have := h2.2.2.2.2.2.2 (by omega); omega⟩
      · exact ⟨by simp only []; omega, by simp only []; omega, fun h => by cases h⟩
    · exact ⟨by simp only []; omega, by simp only []; omega, fun h => by cases h⟩
theorem sX7_readItemV {G : WG} {C : CF} {I : MI} {P : MP} {L : ML} {r l n s e : Nat} {so Y v : Int} {fb : Bool} (hv : v = (if fb = true then 1 else 0)) (hr : ReadL G C P r := by assumption) (hI : ReadI I r n := by assumption) (hTx : TxtL G C I := by assumption) (hSt : StatL G C I := by assumption) (hLow : LowL G := by assumption) (hl : LumpL G C P l := by assumption) (hW : WayL C P (l + 10) (rdF I (l + 10)) := by assumption) (hKd : KindL G C P := by assumption) (hF : FI (rdF I (l + 10)) Y := by assumption) (hBI : BI (rdB I (l + 1)) := by assumption) (hs : I r 3 = (s : Int) := by assumption) (he : I r 4 = (e : Int) := by assumption) (hso : I r 5 = so := by assumption) (hse : s ≤ e ∧ e ≤ n := by omega) (hsr : 0 ≤ so ∧ so ≤ 4 := by omega) (ht : ∀ j, j < 3 → iR (I (r + 2) j) := by assumption) (hrl : r + 3 ≤ l := by omega) (hY : 0 ≤ Y := by omega) : SX7_readItem G [.ref r, .ref l, .int (zI v)] C I P L (NI C (QI r l (itemS (I (r + 1)) n s e so fb (rdF I (l + 10)) (rdB I (l + 1)) (I (r + 2))) Y I C P L)) := by
  subst hv
  exact sX7_readItem
/-- what a reading leaves -/
def QRd (G : WG) (r l : Nat) (R : Int × (Nat → Int) × (Nat → Int)) (Y : Int) (I : MI) (C : CF) (P : MP) (L : ML) : Int → MI → MP → ML → Prop := fun v I1 P1 L1 => v = R.1 ∧ I1 r 2 = I r 2 ∧ rdL I1 l = (R.2.1, R.2.2, (rdL I l).2.2.1, 0, (rdL I l).2.2.2.2) ∧ (∀ x, x ≠ r → x ≠ r + 2 → (x < l ∨ l + 80 ≤ x) → I1 x = I x) ∧ outQ P P1 l ∧ LumpL G C P1 l ∧ WaysL C P1 l (R.2.1, R.2.2, (rdL I l).2.2.1, 0, (rdL I l).2.2.2.2) ∧ FI R.2.1 Y ∧ BI R.2.2 ∧ (∀ j, j < 3 → iR (I1 (r + 2) j)) ∧ L = L1
theorem ite_t {b : Bool} {r : Int} (h : r = if b = true then 1 else 0) (h2 : r ≠ 0) : b = true := by
  cases b with
  | true => rfl
  | false => exact absurd h h2
theorem ite_f {b : Bool} {r : Int} (h : r = if b = true then 1 else 0) (h2 : r = 0) : ¬ b = true := by
  cases b with
  | true => rw [h2] at h; exact absurd h (by decide)
  | false => decide
theorem sX5_beginB {G : WG} {C : CF} {I : MI} {P : MP} {L : ML} {l : Nat} {v : Int} (hl : LumpL G C P l := by assumption) : SX5_begin G [.ref l, .int (zI v)] C I P L (NV C (fun I1 P1 L1 => rdF I1 (l + 10) = begF (rdF I (l + 10)) v ∧ rdB I1 (l + 1) = begB (rdB I (l + 1)) ∧ I1 l 3 = I l 3 ∧ I1 l 4 = 0 ∧ (∀ x, (x < l ∨ l + 20 ≤ x ∨ x = l + 9) → I1 x = I x) ∧ P = P1 ∧ L = L1)) := by
  obtain ⟨h0, hK, hK9, hP0, hP1, hP2, hb, hf, hp⟩ := id hl
  have hK10 := hf.2.1
  have hK1 := hb.2.1
  refine en_V (by decide +kernel) (Nat.le_of_ble_eq_true rfl) ?_
  change Wd _ _ _ _ _ _ _ _ 0 [some _, some _] [] _ _ _ _
  refine r_aload_n (pc := 0) dX5_begin_0 rfl ?_
  refine r_getP (pc := 1) dX5_begin_1 frX5_27 (by assumption) (by assumption) ?_
  refine r_iload_n (pc := 4) dX5_begin_4 rfl ?_
  refine i_V1vg (pc := 5) okX2_begin inX2_begin selX2_begin q345 dX5_begin_5 (by assumption) rfl (by decide) (Nat.le_of_ble_eq_true rfl) (sX2_begin) (fun I2 P2 L2 hq2 => ?_)
  obtain ⟨hT2, hO2, rfl, rfl⟩ := hq2
  refine r_aload_n (pc := 8) dX5_begin_8 rfl ?_
  refine r_getP (pc := 9) dX5_begin_9 frX5_12 (by assumption) (by assumption) ?_
  refine i_V0vg (pc := 12) okX0_begin inX0_begin selX0_begin q349 dX5_begin_12 (by assumption) rfl (by decide) (Nat.le_of_ble_eq_true rfl) (sX0_begin) (fun I3 P3 L3 hq3 => ?_)
  obtain ⟨hT3, hO3, rfl, rfl⟩ := hq3
  refine r_aload_n (pc := 15) dX5_begin_15 rfl ?_
  refine r_iconst (pc := 16) dX5_begin_16 ?_
  refine r_putI (pc := 17) dX5_begin_17 fwX5_37 (by assumption) (by omega) ?_
  refine t_vret (pc := 20) dX5_begin_20 rfl ?_
  refine ⟨?_, ?_, ?_, ?_, fun x hx => ?_, rfl, rfl⟩
  · rw [rdF_u2 _ (by omega), rdF_oB hO3, hT2]
  · rw [rdB_u2 _ (by omega), hT3, rdB_oF hO2]
  · rw [u2_k _ _ _ _ (by decide), hO3 l (by omega), hO2 l (by omega)]
  · rw [u2_s]
  · funext j
    rw [u2_a _ _ _ _ (by omega), hO3 x (by omega), hO2 x (by omega)]
theorem BI_beg {B : Nat → Int} (h : BI B) : BI (begB B) := by
  obtain ⟨b0, b1, b2, b3, b4, b5, b6⟩ := h
  refine ⟨by show (0 : Int) ≤ 0 ∧ (0 : Int) ≤ 50; omega, by show (0 : Int) ≤ 0 ∧ (0 : Int) ≤ 8; omega, by show (0 : Int) ≤ 0 ∧ (0 : Int) ≤ 10; omega, by show (0 : Int) ≤ 0 ∧ (0 : Int) ≤ 4; omega, fun d hd => ?_, fun r hr => ?_, fun i hi => ?_⟩
  · have h4 := b4 d hd
    unfold begB
    refine ⟨?_, ?_, ?_⟩
    · simp only [up_app]; (repeat' split) <;> omega
    · simp only [up_app]; (repeat' split) <;> omega
    · simp only [up_app]; (repeat' split) <;> omega
  · have h5 := b5 r hr
    unfold begB
    refine ⟨?_, ?_, ?_⟩
    · simp only [up_app]; (repeat' split) <;> omega
    · simp only [up_app]; (repeat' split) <;> omega
    · simp only [up_app]; (repeat' split) <;> omega
  · have h6 := b6 i hi
    unfold begB
    simp only [up_app]; (repeat' split) <;> omega
theorem sX7_readInto {G : WG} {C : CF} {I : MI} {P : MP} {L : ML} {r l n : Nat} {Y : Int} (hr : ReadL G C P r := by assumption) (hI : ReadI I r n := by assumption) (hTx : TxtL G C I := by assumption) (hSt : StatL G C I := by assumption) (hLow : LowL G := by assumption) (hl : LumpL G C P l := by assumption) (hW : WaysL C P l (rdL I l) := by assumption) (hKd : KindL G C P := by assumption) (hLI : LI (rdL I l) Y := by assumption) (ht : ∀ j, j < 3 → iR (I (r + 2) j) := by assumption) (hrl : r + 3 ≤ l := by omega) (hrk : r + 2 ≤ gB G + 5 := by omega) (hY : 0 ≤ Y := by omega) : SX7_readInto G [.ref r, .ref l] C I P L (NI C (QRd G r l (readS (I (r + 1)) n (n + 2) 0 0 (begF (rdF I (l + 10)) 10) (begB (rdB I (l + 1))) (I (r + 2))) Y I C P L)) := by
  obtain ⟨rB, rK, rK1, rK2, rP0, rP1⟩ := id hr
  obtain ⟨h2, h150, hbb⟩ := id hI
  have h0 := hl.1
  have hKl := hl.2.1
  have hFI0 : FI (begF (rdF I (l + 10)) 10) Y := FI_beg hLI.1 hY (by omega)
  have hBI0 : BI (begB (rdB I (l + 1))) := BI_beg hLI.2.1
  generalize hbG : I (r + 1) = b at *
  generalize hRG : readS b n (n + 2) 0 0 (begF (rdF I (l + 10)) 10) (begB (rdB I (l + 1))) (I (r + 2)) = R
  refine en_I (by decide +kernel) (Nat.le_of_ble_eq_true rfl) ?_
  change Wd _ _ _ _ _ _ _ _ 0 [some _, some _, none] [] _ _ _ _
  have loop : ∀ (d m a : Nat) (x : Int) (I1 : MI) (P1 : MP), d + m = n + 2 → m ≤ a → a ≤ n → x = (m : Int) → I1 r 2 = (n : Int) → I1 r 4 = (a : Int) → (∀ x, x ≠ r → x ≠ r + 2 → (x < l ∨ l + 20 ≤ x ∨ x = l + 9) → I1 x = I x) → I1 l 3 = I l 3 → I1 l 4 = 0 → outP P P1 (l + 10) → WayL C P1 (l + 10) (rdF I1 (l + 10)) → FI (rdF I1 (l + 10)) Y → BI (rdB I1 (l + 1)) → (∀ j, j < 3 → iR (I1 (r + 2) j)) → readS b n d m a (rdF I1 (l + 10)) (rdB I1 (l + 1)) (I1 (r + 2)) = R → Wd G yX7_readInto cX7_readInto 3 (some .int) 8 (C.2.1 + 0, C.2.2 + 0) (NI C (QRd G r l R Y I C P L)) 13 [some (.ref r), some (.ref l), some (.int (zI x))] [] C I1 P1 L := by
    intro d
    induction d with
    | zero => intro m a x I1 P1 hd hm han; exfalso; omega
    | succ d ih =>
      intro m a x I1 P1 hd hm han hx e2 e4 hO el3 el4 hOP hW1 hF1 hB1 ht1 hR
      have eb : I1 (r + 1) = b := by rw [hO _ (by omega) (by omega) (by omega), hbG]
      have hI1 : ReadI I1 r n := ⟨e2, h150, by rw [eb]; exact hbb⟩
      have hr1 : ReadL G C P1 r := ⟨rB, rK, rK1, rK2, by rw [hOP r (by omega)]; exact rP0, by rw [hOP r (by omega)]; exact rP1⟩
      have hl1 : LumpL G C P1 l := hl.p hOP (Or.inr (Or.inr ⟨1, by omega, by omega, by omega⟩))
      have hK1 : KindL G C P1 := hKd.p hOP (by omega)
      have hti := tok_in b han
      have leave : ∀ (v : Int) (I3 : MI) (P3 : MP), v = R.1 → I3 r 2 = (n : Int) → rdF I3 (l + 10) = R.2.1 → rdB I3 (l + 1) = R.2.2 → (∀ x, x ≠ r → x ≠ r + 2 → (x < l ∨ l + 20 ≤ x ∨ x = l + 9) → I3 x = I x) → I3 l 3 = I l 3 → I3 l 4 = 0 → outP P P3 (l + 10) → WayL C P3 (l + 10) (rdF I3 (l + 10)) → FI (rdF I3 (l + 10)) Y → BI (rdB I3 (l + 1)) → (∀ j, j < 3 → iR (I3 (r + 2) j)) → QRd G r l R Y I C P L v I3 P3 L := by
        intro v I3 P3 hv g2 gF gB gO g3 g4 gP gW gFI gBI gt
        refine ⟨hv, g2.trans h2.symm, rdL_mk gF gB g3 g4 (fun i hi => ?_) (fun i hi => rdL_p6 hi), fun x h3 h4 h5 => gO x h3 h4 (by omega), (outQ.rf P l).f gP, hl.p gP (Or.inr (Or.inr ⟨1, by omega, by omega, by omega⟩)), ⟨?_, fun i hi => (hW.2 i hi).p gP (by omega)⟩, ?_, ?_, gt, rfl⟩
        · rw [rdL_p hi]; exact rdF_eqr (fun x hx => gO x (by omega) (by omega) (by omega))
        · rw [gF] at gW; exact gW
        · rw [gF] at gFI; exact gFI
        · rw [gB] at gBI; exact gBI
      refine r_iload_n (pc := 13) dX7_readInto_13 rfl ?_
      refine r_aload_n (pc := 14) dX7_readInto_14 rfl ?_
      refine r_getI (pc := 15) dX7_readInto_15 frX7_18 (by assumption) ?_
      refine r_icmp_gt (pc := 18) 64 dX7_readInto_18 (by decide) (by omega) (by omega) (fun h18 => ?_) (fun h18 => ?_)
      · exfalso; omega
      · skip
        refine r_aload_n (pc := 21) dX7_readInto_21 rfl ?_
        refine i_V0vg (pc := 22) okX7_advance inX7_advance selX7_advance q414 dX7_readInto_22 (by assumption) rfl (by decide) (Nat.le_of_ble_eq_true rfl) (sX7_advance (n := n) (a := a)) (fun I3 P3 L3 hq3 => ?_)
        obtain ⟨f2, f3, f4, f5, f6, fO, rfl, rfl⟩ := hq3
        rw [eb] at f3 f4 f5 f6
        have eb3 : I3 (r + 1) = b := by rw [fO _ (by omega), eb]
        have hI3 : ReadI I3 r n := ⟨by rw [f2, e2], h150, by rw [eb3]; exact hbb⟩
        have eF3 : rdF I3 (l + 10) = rdF I1 (l + 10) := rdF_eqr (fun x hx => fO x (by omega))
        have eB3 : rdB I3 (l + 1) = rdB I1 (l + 1) := rdB_eqr (fun x hx => fO x (by omega))
        have et3 : I3 (r + 2) = I1 (r + 2) := fO _ (by omega)
        have hO3 : ∀ x, x ≠ r → x ≠ r + 2 → (x < l ∨ l + 20 ≤ x ∨ x = l + 9) → I3 x = I x := fun x hx1 hx2 hx3 => (fO x hx1).trans (hO x hx1 hx2 hx3)
        have hW3 : WayL C P1 (l + 10) (rdF I3 (l + 10)) := by rw [eF3]; exact hW1
        have hF3 : FI (rdF I3 (l + 10)) Y := by rw [eF3]; exact hF1
        have hB3 : BI (rdB I3 (l + 1)) := by rw [eB3]; exact hB1
        have ht3 : ∀ j, j < 3 → iR (I3 (r + 2) j) := by rw [et3]; exact ht1
        have hTx3 : TxtL G C I3 := fun i k hk => ⟨(hTx i k hk).1, fun j hj => by
          have hlo := hLow.2 i (slen_in hk).1
          rw [hO3 _ (by omega) (by omega) (by omega)]; exact (hTx i k hk).2 j hj⟩
        have hSt3 : StatL G C I3 := by
          obtain ⟨s0, s1, s2, s3, s4, s5⟩ := hSt
          have l0 := hLow.1 0 (by omega)
          have l1 := hLow.1 1 (by omega)
          have l2 := hLow.1 2 (by omega)
          exact ⟨s0, s1, s2, by rw [hO3 _ (by omega) (by omega) (by omega)]; exact s3, by rw [hO3 _ (by omega) (by omega) (by omega)]; exact s4, by rw [hO3 _ (by omega) (by omega) (by omega)]; exact s5⟩
        have el33 : I3 l 3 = I l 3 := by rw [fO l (by omega), el3]
        have el34 : I3 l 4 = 0 := by rw [fO l (by omega), el4]
        unfold readS at hR
        have hXi := itemS_in b (n := n) (s := (tok b n a).1) (e := (tok b n a).2.1) (tok b n a).2.2 (decide (m = 0)) (rdF I1 (l + 10)) (rdB I1 (l + 1)) (I1 (r + 2)) ⟨hti.2.2.1, hti.2.2.2.1⟩
        refine r_aload_n (pc := 25) dX7_readInto_25 rfl ?_
        refine r_getI (pc := 26) dX7_readInto_26 frX7_38 (by assumption) ?_
        refine r_if_ne (pc := 29) 38 dX7_readInto_29 (by decide) (by omega) (fun h29 => ?_) (fun h29 => ?_)
        · skip
          refine r_aload_n (pc := 38) dX7_readInto_38 rfl ?_
          refine r_aload_n (pc := 39) dX7_readInto_39 rfl ?_
          refine r_iload_n (pc := 40) dX7_readInto_40 rfl ?_
          refine r_if_ne (pc := 41) 48 dX7_readInto_41 (by decide) (by omega) (fun h41 => ?_) (fun h41 => ?_)
          · skip
            refine r_iconst (pc := 48) dX7_readInto_48 ?_
            refine i_V2ig (pc := 49) okX7_readItem inX7_readItem selX7_readItem q434 dX7_readInto_49 (by assumption) rfl (by decide) (Nat.le_of_ble_eq_true rfl) (sX7_readItemV (n := n) (s := (tok b n a).1) (e := (tok b n a).2.1) (so := (tok b n a).2.2) (Y := Y) (fb := decide (m = 0)) (by first | (rw [decide_eq_true (by omega)]; rfl) | (rw [decide_eq_false (by omega)]; rfl))) (fun r5 I5 P5 L5 hq5 => ?_)
            rw [eb3, eF3, eB3, et3] at hq5
            rw [if_neg (by omega)] at hR
            generalize hXX : itemS b n (tok b n a).1 (tok b n a).2.1 (tok b n a).2.2 (decide (m = 0)) (rdF I1 (l + 10)) (rdB I1 (l + 1)) (I1 (r + 2)) = X at hq5 hR hXi
            obtain ⟨g1, g2, g3, g4, gF, gB, gt, gO, gP, gW, gFI, gBI, gti, rfl⟩ := hq5
            have hO5 : ∀ x, x ≠ r → x ≠ r + 2 → (x < l ∨ l + 20 ≤ x ∨ x = l + 9) → I5 x = I x := fun x hx1 hx2 hx3 => (gO x hx1 hx2 (by omega)).trans (hO3 x hx1 hx2 hx3)
            have el5 : I5 l = I3 l := gO l (by omega) (by omega) (by omega)
            have gr : r5 = 0 ∨ r5 = 1 := by rw [g1]; split <;> omega
            refine r_if_ne (pc := 52) 58 dX7_readInto_52 (by decide) (by omega) (fun h52 => ?_) (fun h52 => ?_)
            · skip
              refine r_iinc (pc := 58) dX7_readInto_58 rfl ?_
              refine r_goto (pc := 61) 13 dX7_readInto_61 (by decide) ?_
              have hx1 := ite_t g1 (by omega)
              rw [if_pos hx1] at hR
              have h9 := hXi.2.2 hx1
              refine ih (m + 1) X.2.2.1 _ I5 P5 (by omega) (by omega) hXi.2.1 (by omega) ?_ g4 hO5 ?_ ?_ (hOP.tr gP) (by rw [gF]; exact gW) (by rw [gF]; exact gFI) (by rw [gB]; exact gBI) (by rw [gt]; exact gti) (by rw [gF, gB, gt]; exact hR)
              · rw [g2, f2, e2]
              · rw [el5, el33]
              · rw [el5, el34]
            · skip
              refine r_goto (pc := 55) 64 dX7_readInto_55 (by decide) ?_
              refine r_bipush (pc := 64) dX7_readInto_64 (by decide) ?_
              refine r_aload_n (pc := 66) dX7_readInto_66 rfl ?_
              refine r_getI (pc := 67) dX7_readInto_67 frX7_45 (by assumption) ?_
              refine r_isub (pc := 70) dX7_readInto_70 ?_
              refine t_iret (pc := 71) dX7_readInto_71 rfl rfl ?_
              have hx0 := ite_f g1 (by omega)
              rw [if_neg hx0] at hR
              refine leave _ _ _ ?_ (by rw [g2, f2, e2]) ?_ ?_ hO5 (by rw [el5, el33]) (by rw [el5, el34]) (hOP.tr gP) (by rw [gF]; exact gW) (by rw [gF]; exact gFI) (by rw [gB]; exact gBI) (by rw [gt]; exact gti)
              · rw [← hR, g3]
              · rw [← hR, gF]
              · rw [← hR, gB]
          · skip
            refine r_iconst (pc := 44) dX7_readInto_44 ?_
            refine r_goto (pc := 45) 49 dX7_readInto_45 (by decide) ?_
            refine i_V2ig (pc := 49) okX7_readItem inX7_readItem selX7_readItem q434 dX7_readInto_49 (by assumption) rfl (by decide) (Nat.le_of_ble_eq_true rfl) (sX7_readItemV (n := n) (s := (tok b n a).1) (e := (tok b n a).2.1) (so := (tok b n a).2.2) (Y := Y) (fb := decide (m = 0)) (by first | (rw [decide_eq_true (by omega)]; rfl) | (rw [decide_eq_false (by omega)]; rfl))) (fun r5 I5 P5 L5 hq5 => ?_)
            rw [eb3, eF3, eB3, et3] at hq5
            rw [if_neg (by omega)] at hR
            generalize hXX : itemS b n (tok b n a).1 (tok b n a).2.1 (tok b n a).2.2 (decide (m = 0)) (rdF I1 (l + 10)) (rdB I1 (l + 1)) (I1 (r + 2)) = X at hq5 hR hXi
            obtain ⟨g1, g2, g3, g4, gF, gB, gt, gO, gP, gW, gFI, gBI, gti, rfl⟩ := hq5
            have hO5 : ∀ x, x ≠ r → x ≠ r + 2 → (x < l ∨ l + 20 ≤ x ∨ x = l + 9) → I5 x = I x := fun x hx1 hx2 hx3 => (gO x hx1 hx2 (by omega)).trans (hO3 x hx1 hx2 hx3)
            have el5 : I5 l = I3 l := gO l (by omega) (by omega) (by omega)
            have gr : r5 = 0 ∨ r5 = 1 := by rw [g1]; split <;> omega
            refine r_if_ne (pc := 52) 58 dX7_readInto_52 (by decide) (by omega) (fun h52 => ?_) (fun h52 => ?_)
            · skip
              refine r_iinc (pc := 58) dX7_readInto_58 rfl ?_
              refine r_goto (pc := 61) 13 dX7_readInto_61 (by decide) ?_
              have hx1 := ite_t g1 (by omega)
              rw [if_pos hx1] at hR
              have h9 := hXi.2.2 hx1
              refine ih (m + 1) X.2.2.1 _ I5 P5 (by omega) (by omega) hXi.2.1 (by omega) ?_ g4 hO5 ?_ ?_ (hOP.tr gP) (by rw [gF]; exact gW) (by rw [gF]; exact gFI) (by rw [gB]; exact gBI) (by rw [gt]; exact gti) (by rw [gF, gB, gt]; exact hR)
              · rw [g2, f2, e2]
              · rw [el5, el33]
              · rw [el5, el34]
            · skip
              refine r_goto (pc := 55) 64 dX7_readInto_55 (by decide) ?_
              refine r_bipush (pc := 64) dX7_readInto_64 (by decide) ?_
              refine r_aload_n (pc := 66) dX7_readInto_66 rfl ?_
              refine r_getI (pc := 67) dX7_readInto_67 frX7_45 (by assumption) ?_
              refine r_isub (pc := 70) dX7_readInto_70 ?_
              refine t_iret (pc := 71) dX7_readInto_71 rfl rfl ?_
              have hx0 := ite_f g1 (by omega)
              rw [if_neg hx0] at hR
              refine leave _ _ _ ?_ (by rw [g2, f2, e2]) ?_ ?_ hO5 (by rw [el5, el33]) (by rw [el5, el34]) (hOP.tr gP) (by rw [gF]; exact gW) (by rw [gF]; exact gFI) (by rw [gB]; exact gBI) (by rw [gt]; exact gti)
              · rw [← hR, g3]
              · rw [← hR, gF]
              · rw [← hR, gB]
        · skip
          refine r_iload_n (pc := 32) dX7_readInto_32 rfl ?_
          refine r_if_le (pc := 33) 38 dX7_readInto_33 (by decide) (by omega) (fun h33 => ?_) (fun h33 => ?_)
          · skip
            refine r_aload_n (pc := 38) dX7_readInto_38 rfl ?_
            refine r_aload_n (pc := 39) dX7_readInto_39 rfl ?_
            refine r_iload_n (pc := 40) dX7_readInto_40 rfl ?_
            refine r_if_ne (pc := 41) 48 dX7_readInto_41 (by decide) (by omega) (fun h41 => ?_) (fun h41 => ?_)
            · skip
              refine r_iconst (pc := 48) dX7_readInto_48 ?_
              refine i_V2ig (pc := 49) okX7_readItem inX7_readItem selX7_readItem q434 dX7_readInto_49 (by assumption) rfl (by decide) (Nat.le_of_ble_eq_true rfl) (sX7_readItemV (n := n) (s := (tok b n a).1) (e := (tok b n a).2.1) (so := (tok b n a).2.2) (Y := Y) (fb := decide (m = 0)) (by first | (rw [decide_eq_true (by omega)]; rfl) | (rw [decide_eq_false (by omega)]; rfl))) (fun r5 I5 P5 L5 hq5 => ?_)
              rw [eb3, eF3, eB3, et3] at hq5
              rw [if_neg (by omega)] at hR
              generalize hXX : itemS b n (tok b n a).1 (tok b n a).2.1 (tok b n a).2.2 (decide (m = 0)) (rdF I1 (l + 10)) (rdB I1 (l + 1)) (I1 (r + 2)) = X at hq5 hR hXi
              obtain ⟨g1, g2, g3, g4, gF, gB, gt, gO, gP, gW, gFI, gBI, gti, rfl⟩ := hq5
              have hO5 : ∀ x, x ≠ r → x ≠ r + 2 → (x < l ∨ l + 20 ≤ x ∨ x = l + 9) → I5 x = I x := fun x hx1 hx2 hx3 => (gO x hx1 hx2 (by omega)).trans (hO3 x hx1 hx2 hx3)
              have el5 : I5 l = I3 l := gO l (by omega) (by omega) (by omega)
              have gr : r5 = 0 ∨ r5 = 1 := by rw [g1]; split <;> omega
              refine r_if_ne (pc := 52) 58 dX7_readInto_52 (by decide) (by omega) (fun h52 => ?_) (fun h52 => ?_)
              · skip
                refine r_iinc (pc := 58) dX7_readInto_58 rfl ?_
                refine r_goto (pc := 61) 13 dX7_readInto_61 (by decide) ?_
                have hx1 := ite_t g1 (by omega)
                rw [if_pos hx1] at hR
                have h9 := hXi.2.2 hx1
                refine ih (m + 1) X.2.2.1 _ I5 P5 (by omega) (by omega) hXi.2.1 (by omega) ?_ g4 hO5 ?_ ?_ (hOP.tr gP) (by rw [gF]; exact gW) (by rw [gF]; exact gFI) (by rw [gB]; exact gBI) (by rw [gt]; exact gti) (by rw [gF, gB, gt]; exact hR)
                · rw [g2, f2, e2]
                · rw [el5, el33]
                · rw [el5, el34]
              · skip
                refine r_goto (pc := 55) 64 dX7_readInto_55 (by decide) ?_
                refine r_bipush (pc := 64) dX7_readInto_64 (by decide) ?_
                refine r_aload_n (pc := 66) dX7_readInto_66 rfl ?_
                refine r_getI (pc := 67) dX7_readInto_67 frX7_45 (by assumption) ?_
                refine r_isub (pc := 70) dX7_readInto_70 ?_
                refine t_iret (pc := 71) dX7_readInto_71 rfl rfl ?_
                have hx0 := ite_f g1 (by omega)
                rw [if_neg hx0] at hR
                refine leave _ _ _ ?_ (by rw [g2, f2, e2]) ?_ ?_ hO5 (by rw [el5, el33]) (by rw [el5, el34]) (hOP.tr gP) (by rw [gF]; exact gW) (by rw [gF]; exact gFI) (by rw [gB]; exact gBI) (by rw [gt]; exact gti)
                · rw [← hR, g3]
                · rw [← hR, gF]
                · rw [← hR, gB]
            · skip
              refine r_iconst (pc := 44) dX7_readInto_44 ?_
              refine r_goto (pc := 45) 49 dX7_readInto_45 (by decide) ?_
              refine i_V2ig (pc := 49) okX7_readItem inX7_readItem selX7_readItem q434 dX7_readInto_49 (by assumption) rfl (by decide) (Nat.le_of_ble_eq_true rfl) (sX7_readItemV (n := n) (s := (tok b n a).1) (e := (tok b n a).2.1) (so := (tok b n a).2.2) (Y := Y) (fb := decide (m = 0)) (by first | (rw [decide_eq_true (by omega)]; rfl) | (rw [decide_eq_false (by omega)]; rfl))) (fun r5 I5 P5 L5 hq5 => ?_)
              rw [eb3, eF3, eB3, et3] at hq5
              rw [if_neg (by omega)] at hR
              generalize hXX : itemS b n (tok b n a).1 (tok b n a).2.1 (tok b n a).2.2 (decide (m = 0)) (rdF I1 (l + 10)) (rdB I1 (l + 1)) (I1 (r + 2)) = X at hq5 hR hXi
              obtain ⟨g1, g2, g3, g4, gF, gB, gt, gO, gP, gW, gFI, gBI, gti, rfl⟩ := hq5
              have hO5 : ∀ x, x ≠ r → x ≠ r + 2 → (x < l ∨ l + 20 ≤ x ∨ x = l + 9) → I5 x = I x := fun x hx1 hx2 hx3 => (gO x hx1 hx2 (by omega)).trans (hO3 x hx1 hx2 hx3)
              have el5 : I5 l = I3 l := gO l (by omega) (by omega) (by omega)
              have gr : r5 = 0 ∨ r5 = 1 := by rw [g1]; split <;> omega
              refine r_if_ne (pc := 52) 58 dX7_readInto_52 (by decide) (by omega) (fun h52 => ?_) (fun h52 => ?_)
              · skip
                refine r_iinc (pc := 58) dX7_readInto_58 rfl ?_
                refine r_goto (pc := 61) 13 dX7_readInto_61 (by decide) ?_
                have hx1 := ite_t g1 (by omega)
                rw [if_pos hx1] at hR
                have h9 := hXi.2.2 hx1
                refine ih (m + 1) X.2.2.1 _ I5 P5 (by omega) (by omega) hXi.2.1 (by omega) ?_ g4 hO5 ?_ ?_ (hOP.tr gP) (by rw [gF]; exact gW) (by rw [gF]; exact gFI) (by rw [gB]; exact gBI) (by rw [gt]; exact gti) (by rw [gF, gB, gt]; exact hR)
                · rw [g2, f2, e2]
                · rw [el5, el33]
                · rw [el5, el34]
              · skip
                refine r_goto (pc := 55) 64 dX7_readInto_55 (by decide) ?_
                refine r_bipush (pc := 64) dX7_readInto_64 (by decide) ?_
                refine r_aload_n (pc := 66) dX7_readInto_66 rfl ?_
                refine r_getI (pc := 67) dX7_readInto_67 frX7_45 (by assumption) ?_
                refine r_isub (pc := 70) dX7_readInto_70 ?_
                refine t_iret (pc := 71) dX7_readInto_71 rfl rfl ?_
                have hx0 := ite_f g1 (by omega)
                rw [if_neg hx0] at hR
                refine leave _ _ _ ?_ (by rw [g2, f2, e2]) ?_ ?_ hO5 (by rw [el5, el33]) (by rw [el5, el34]) (hOP.tr gP) (by rw [gF]; exact gW) (by rw [gF]; exact gFI) (by rw [gB]; exact gBI) (by rw [gt]; exact gti)
                · rw [← hR, g3]
                · rw [← hR, gF]
                · rw [← hR, gB]
          · skip
            refine r_iload_n (pc := 36) dX7_readInto_36 rfl ?_
            refine t_iret (pc := 37) dX7_readInto_37 rfl rfl ?_
            rw [if_pos (by omega)] at hR
            refine leave _ _ _ ?_ (by rw [f2, e2]) ?_ ?_ hO3 el33 el34 hOP hW3 hF3 hB3 ht3
            · rw [← hR]; exact hx
            · rw [← hR, eF3]
            · rw [← hR, eB3]
  refine r_aload_n (pc := 0) dX7_readInto_0 rfl ?_
  refine r_bipush (pc := 1) dX7_readInto_1 (by decide) ?_
  refine i_V1vg (pc := 3) okX5_begin inX5_begin selX5_begin q413 dX7_readInto_3 (by assumption) rfl (by decide) (Nat.le_of_ble_eq_true rfl) (sX5_beginB) (fun I3 P3 L3 hq3 => ?_)
  obtain ⟨gF, gB, g3, g4, gO, rfl, rfl⟩ := hq3
  refine r_aload_n (pc := 6) dX7_readInto_6 rfl ?_
  refine r_iconst (pc := 7) dX7_readInto_7 ?_
  refine r_putI (pc := 8) dX7_readInto_8 fwX7_32 (by assumption) (by omega) ?_
  refine r_iconst (pc := 11) dX7_readInto_11 ?_
  refine r_istore_n (pc := 12) dX7_readInto_12 (by decide) ?_
  have eF : rdF (u2 I3 r 4 0) (l + 10) = begF (rdF I (l + 10)) 10 := by rw [rdF_u2 _ (by omega), gF]
  have eB : rdB (u2 I3 r 4 0) (l + 1) = begB (rdB I (l + 1)) := by rw [rdB_u2 _ (by omega), gB]
  have et : (u2 I3 r 4 0) (r + 2) = I (r + 2) := by
    funext j
    rw [u2_a _ _ _ _ (by omega)]; exact congrFun (gO (r + 2) (by omega)) j
  refine loop (n + 2) 0 0 _ _ P (by omega) (by omega) (by omega) rfl ?_ (u2_s _ _ _ _) (fun x hx1 hx2 hx3 => ?_) ?_ ?_ (outP.rf P _) ?_ (by rw [eF]; exact hFI0) (by rw [eB]; exact hBI0) (by rw [et]; exact ht) (by rw [eF, eB, et]; exact hRG)
  · rw [u2_k _ _ _ _ (by decide), gO r (by omega), h2]
  · funext j; rw [u2_a _ _ _ _ hx1]; exact congrFun (gO x hx3) j
  · rw [u2_a _ _ _ _ (by omega), g3]
  · rw [u2_a _ _ _ _ (by omega), g4]
  · rw [eF]
    intro g hg
    have e : begF (rdF I (l + 10)) 10 (7 + 4 * g) = rdF I (l + 10) (7 + 4 * g) := by simp only [begF]; rw [if_neg (by omega), if_neg (by omega)]
    rw [e]
    exact hW.1 g hg

