/-! job, rate, debt, report, none -/
theorem sFam {G : WG} {C : CF} {I : MI} {P : MP} {L : ML} {Y f : Int} (h : YI G C I P Y := by assumption) (hf : iR f := by omega) : SX11_isFamily G [.ref (gB G), .int (zI f)] C I P L (NI C (XI (if 0 ≤ f ∧ f ≤ (rdY G I L).1.1 6 - 1 then 1 else 0) I P L)) := by
  have hyl := h.1
  have hs := h.2.1.1.1.2.2.2.2.2.2.1
  exact sX11_isFamily (hs := hs)
def jobS (S : YS) (f j : Int) : Int × YS := if (0 ≤ f ∧ f ≤ S.1.1 6 - 1) ∧ (0 ≤ j ∧ j ≤ 4) then (S.1.1 (10 + 4 * f.toNat), yLu S (lF S.1 (up S.1.1 (10 + 4 * f.toNat) j))) else (-2, yB S)
theorem sX11_job {G : WG} {C : CF} {I : MI} {P : MP} {L : ML} {Y f j : Int} (h : YI G C I P Y := by assumption) (hf' : iR f := by omega) (hj : iR j := by omega) : SX11_job G [.ref (gB G), .int (zI f), .int (zI j)] C I P L (NI C (QY G (jobS (rdY G I L) f j).1 (jobS (rdY G I L) f j).2 Y C)) := by
  have hyl := h.1
  obtain ⟨hK, hK4, hP0, hP1, hP2, hP3, hP4, hP5, hP6, hr, hl, -⟩ := id hyl
  have hKl := hl.2.1
  have hPl : P (gB G + 11) 0 = some (gB G + 21) := hl.2.2.2.1
  have hf : FarmL G C P (gB G + 21) := hl.2.2.2.2.2.2.2.1
  have hKf := hf.2.1
  have hF : FI (rdF I (gB G + 21)) Y := h.2.1.1.1
  have hW : WayL C P (gB G + 21) (rdF I (gB G + 21)) := h.2.2.1.1.1
  have hs6 := hF.2.2.2.2.2.2.1
  have e10 : I (gB G + 21) 10 = rdF I (gB G + 21) 6 := at_10 I (gB G + 21)
  have eS : (rdY G I L).1.1 6 = rdF I (gB G + 21) 6 := rfl
  refine en_I (by decide +kernel) (Nat.le_of_ble_eq_true rfl) ?_
  change Wd _ _ _ _ _ _ _ _ 0 [some _, some _, some _, none, none] [] _ _ _ _
  refine r_aload_n (pc := 0) dX11_job_0 rfl ?_
  refine r_iload_n (pc := 1) dX11_job_1 rfl ?_
  refine i_V1ix (pc := 2) okX11_isFamily inX11_isFamily selX11_isFamily q336 dX11_job_2 (by assumption) rfl (by decide) (Nat.le_of_ble_eq_true rfl) (sFam) ?_
  refine r_if_eq (pc := 5) 17 dX11_job_5 (by decide) (by first | omega | (split <;> decide)) (fun h5 => ?_) (fun h5 => ?_)
  · skip
    refine r_aload_n (pc := 17) dX11_job_17 rfl ?_
    refine r_bipush (pc := 18) dX11_job_18 (by decide) ?_
    refine i_V1ix (pc := 20) okX11_refuseBad inX11_refuseBad selX11_refuseBad q320 dX11_job_20 (by assumption) rfl (by decide) (Nat.le_of_ble_eq_true rfl) (sX11_refuseBad) ?_
    refine t_iret (pc := 23) dX11_job_23 rfl rfl ?_
    have hz : ¬ ((0 ≤ f ∧ f ≤ (rdY G I L).1.1 6 - 1) ∧ (0 ≤ j ∧ j ≤ 4)) := by
      first
      | exact fun hz => (wf h5) hz.1
      | exact fun hz => (wf h14) hz.2
    unfold jobS
    rw [if_neg hz]
    exact QY_bad h
  · skip
    refine r_iload_n (pc := 8) dX11_job_8 rfl ?_
    refine r_iconst (pc := 9) dX11_job_9 ?_
    refine r_iconst (pc := 10) dX11_job_10 ?_
    refine i_S3ix (pc := 11) okX11_within staX11_within q317 dX11_job_11 (by decide) (Nat.le_of_ble_eq_true rfl) (sX11_within) ?_
    refine r_if_ne (pc := 14) 24 dX11_job_14 (by decide) (by first | omega | (split <;> decide)) (fun h14 => ?_) (fun h14 => ?_)
    · skip
      refine r_aload_n (pc := 24) dX11_job_24 rfl ?_
      refine r_getP (pc := 25) dX11_job_25 frX11_40 (by assumption) (by assumption) ?_
      refine r_getP (pc := 28) dX11_job_28 frX11_72 (by assumption) (by assumption) ?_
      refine r_iload_n (pc := 31) dX11_job_31 rfl ?_
      have h1 := wt h5
      have h2 := wt h14
      have hKm := (hf.2.2.2.2.2.2.2.2.2 f.toNat (by omega)).1
      have ej := at_j I (gB G + 21) (f := f.toNat) (by omega)
      refine i_V1rx (pc := 32) okX2_member inX2_member selX2_member q340 dX11_job_32 (by assumption) rfl (by decide) (Nat.le_of_ble_eq_true rfl) (sX2_member (f := f.toNat)) ?_
      refine r_astore_n (pc := 35) dX11_job_35 (by decide) ?_
      refine r_aload_n (pc := 36) dX11_job_36 rfl ?_
      refine r_getI (pc := 37) dX11_job_37 frX11_112 (by assumption) ?_
      refine r_istore (pc := 40) dX11_job_40 (by decide) ?_
      refine r_aload_n (pc := 42) dX11_job_42 rfl ?_
      refine r_iload_n (pc := 43) dX11_job_43 rfl ?_
      refine r_putI (pc := 44) dX11_job_44 fwX11_112 (by assumption) (by first | omega | (split <;> decide)) ?_
      refine r_iload (pc := 47) dX11_job_47 rfl ?_
      refine t_iret (pc := 49) dX11_job_49 rfl rfl ?_
      unfold jobS
      rw [if_pos ⟨h1, h2⟩]
      have hT3 := rd_j I (gB G + 21) (f := f.toNat) j (by omega)
      have hO3 : outF I (u2 I (gB G + 21 + 4 + f.toNat) 4 j) (gB G + 21) := (outF.rf I _).u
      refine ⟨ej, rdY_lump ((outL.rf I _).f hO3) ?_, h.farm hO3 (outP.rf P _) ?_ ?_ ?_ ?_⟩
      · rw [rdL_farm hO3, hT3]; rfl
      · rw [hT3]; exact way_fx hW (fun g hg => up_n _ _ (by omega))
      · rw [hT3]; exact FI_job hF h2.1 h2.2
      · rw [hT3, up_n _ _ (by omega)]; exact Int.le_refl _
      · rw [hT3, up_n _ _ (by omega)]
    · skip
      refine r_aload_n (pc := 17) dX11_job_17 rfl ?_
      refine r_bipush (pc := 18) dX11_job_18 (by decide) ?_
      refine i_V1ix (pc := 20) okX11_refuseBad inX11_refuseBad selX11_refuseBad q320 dX11_job_20 (by assumption) rfl (by decide) (Nat.le_of_ble_eq_true rfl) (sX11_refuseBad) ?_
      refine t_iret (pc := 23) dX11_job_23 rfl rfl ?_
      have hz : ¬ ((0 ≤ f ∧ f ≤ (rdY G I L).1.1 6 - 1) ∧ (0 ≤ j ∧ j ≤ 4)) := by
        first
        | exact fun hz => (wf h5) hz.1
        | exact fun hz => (wf h14) hz.2
      unfold jobS
      rw [if_neg hz]
      exact QY_bad h
theorem BI_rate {B : Nat → Int} {r : Int} (h : BI B) (hr : 0 ≤ r ∧ r ≤ 50) : BI (up B 58 r) := by
  obtain ⟨b0, b1, b2, b3, b4, b5, b6⟩ := h
  refine ⟨by rw [up_s]; exact hr, by rw [up_n _ _ (by omega)]; exact b1, by rw [up_n _ _ (by omega)]; exact b2, by rw [up_n _ _ (by omega)]; exact b3, fun d hd => ?_, fun r hr => ?_, fun i hi => ?_⟩
  · rw [up_n _ _ (by omega), up_n _ _ (by omega), up_n _ _ (by omega)]; exact b4 d hd
  · rw [up_n _ _ (by omega), up_n _ _ (by omega), up_n _ _ (by omega)]; exact b5 r hr
  · rw [up_n _ _ (by omega)]; exact b6 i hi
theorem BI_repo {B : Nat → Int} {n : Nat} {x y z : Int} (h : BI B) (hn : n < 10) (hx : 0 ≤ x ∧ x ≤ 99) (hy : 0 ≤ y ∧ y ≤ 5) (hz : 0 ≤ z ∧ z ≤ 9999) : BI (repoB B n x y z) := by
  obtain ⟨b0, b1, b2, b3, b4, b5, b6⟩ := h
  unfold repoB
  refine ⟨?_, ?_, ?_, ?_, fun d hd => ?_, fun r hr => ?_, fun i hi => ?_⟩
  · rw [up_n _ _ (by omega), up_n _ _ (by omega), up_n _ _ (by omega), up_n _ _ (by omega)]; exact b0
  · rw [up_n _ _ (by omega), up_n _ _ (by omega), up_n _ _ (by omega), up_n _ _ (by omega)]; exact b1
  · rw [up_s]; omega
  · rw [up_n _ _ (by omega), up_n _ _ (by omega), up_n _ _ (by omega), up_n _ _ (by omega)]; exact b3
  · have h4 := b4 d hd
    rw [up_n _ _ (by omega), up_n _ _ (by omega), up_n _ _ (by omega), up_n _ _ (by omega), up_n _ _ (by omega), up_n _ _ (by omega), up_n _ _ (by omega), up_n _ _ (by omega), up_n _ _ (by omega), up_n _ _ (by omega), up_n _ _ (by omega), up_n _ _ (by omega)]; exact h4
  · have h5 := b5 r hr
    refine ⟨?_, ?_, ?_⟩
    · simp only [up_app]; (repeat' split) <;> omega
    · simp only [up_app]; (repeat' split) <;> omega
    · simp only [up_app]; (repeat' split) <;> omega
  · have h6 := b6 i hi
    rw [up_n _ _ (by omega), up_n _ _ (by omega), up_n _ _ (by omega), up_n _ _ (by omega)]; exact h6
theorem BI_stri {B : Nat → Int} (h : BI B) (x : Int) : BI (striB B x) := by
  have key : ∀ k, k = 33 ∨ k = 59 ∨ k = 90 → BI (up B k 0) := by
    intro k hk
    obtain ⟨b0, b1, b2, b3, b4, b5, b6⟩ := h
    refine ⟨by rw [up_n _ _ (by omega)]; exact b0, ?_, ?_, ?_, fun d hd => ?_, fun r hr => ?_, fun i hi => ?_⟩
    · rw [up_app]; split <;> omega
    · rw [up_app]; split <;> omega
    · rw [up_app]; split <;> omega
    · rw [up_n _ _ (by omega), up_n _ _ (by omega), up_n _ _ (by omega)]; exact b4 d hd
    · rw [up_n _ _ (by omega), up_n _ _ (by omega), up_n _ _ (by omega)]; exact b5 r hr
    · rw [up_n _ _ (by omega)]; exact b6 i hi
  unfold striB
  split
  · exact key 33 (by omega)
  split
  · exact key 59 (by omega)
  split
  · exact key 90 (by omega)
  · exact h
def rateS (S : YS) (r : Int) : Int × YS := if 0 ≤ r ∧ r ≤ 50 then (S.1.2.1 58, yLu S (lBk S.1 (up S.1.2.1 58 r))) else (-2, yB S)
def noneS (S : YS) (x : Int) : Int × YS := if 0 ≤ x ∧ x ≤ 2 then ((if x = 0 then S.1.2.1 33 else if x = 1 then S.1.2.1 59 else S.1.2.1 90), yLu S (lBk S.1 (striB S.1.2.1 x))) else (-2, yB S)

