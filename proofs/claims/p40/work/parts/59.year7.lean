/-! debt, report -/
def debtS (S : YS) (f t n : Int) : Int × YS := if ((0 ≤ f ∧ f ≤ S.1.1 6 - 1) ∧ (0 ≤ t ∧ t ≤ S.1.1 6 - 1) ∧ f ≠ t) ∧ (1 ≤ n ∧ n ≤ 999) then (if S.1.2.1 33 < 8 then (S.1.2.1 33, yLu S (lBk S.1 (debtB S.1.2.1 (S.1.2.1 33).toNat f t n))) else (-4, yF S)) else (-2, yB S)
theorem sX11_debt {G : WG} {C : CF} {I : MI} {P : MP} {L : ML} {Y f t n : Int} (h : YI G C I P Y := by assumption) (hf' : iR f := by omega) (ht' : iR t := by omega) (hn' : iR n := by omega) : SX11_debt G [.ref (gB G), .int (zI f), .int (zI t), .int (zI n)] C I P L (NI C (QY G (debtS (rdY G I L) f t n).1 (debtS (rdY G I L) f t n).2 Y C)) := by
  have hyl := h.1
  obtain ⟨hK, hK4, hP0, hP1, hP2, hP3, hP4, hP5, hP6, hr, hl, -⟩ := id hyl
  have hKl := hl.2.1
  have hPl : P (gB G + 11) 1 = some (gB G + 12) := hl.2.2.2.2.1
  have hb : BooksL G C P (gB G + 12) := hl.2.2.2.2.2.2.1
  have hKb := hb.2.1
  have hBI : BI (rdB I (gB G + 12)) := h.2.1.1.2.1
  have hF : FI (rdF I (gB G + 21)) Y := h.2.1.1.1
  have hs6 := hF.2.2.2.2.2.2.1
  have eS : (rdY G I L).1.1 6 = rdF I (gB G + 21) 6 := rfl
  have b1 := hBI.2.1
  have e1 : I (gB G + 12) 1 = ((rdB I (gB G + 12) 33).toNat : Int) := by rw [ab_1 I (gB G + 12)]; omega
  have e1' : I (gB G + 12) 1 = rdB I (gB G + 12) 33 := ab_1 I (gB G + 12)
  refine en_I (by decide +kernel) (Nat.le_of_ble_eq_true rfl) ?_
  change Wd _ _ _ _ _ _ _ _ 0 [some _, some _, some _, some _] [] _ _ _ _
  refine r_aload_n (pc := 0) dX11_debt_0 rfl ?_
  refine r_iload_n (pc := 1) dX11_debt_1 rfl ?_
  refine i_V1ix (pc := 2) okX11_isFamily inX11_isFamily selX11_isFamily q336 dX11_debt_2 (by assumption) rfl (by decide) (Nat.le_of_ble_eq_true rfl) (sFam) ?_
  refine r_if_eq (pc := 5) 21 dX11_debt_5 (by decide) (by first | omega | (split <;> decide)) (fun h5 => ?_) (fun h5 => ?_)
  · skip
    refine r_aload_n (pc := 21) dX11_debt_21 rfl ?_
    refine r_bipush (pc := 22) dX11_debt_22 (by decide) ?_
    refine i_V1ix (pc := 24) okX11_refuseBad inX11_refuseBad selX11_refuseBad q320 dX11_debt_24 (by assumption) rfl (by decide) (Nat.le_of_ble_eq_true rfl) (sX11_refuseBad) ?_
    refine t_iret (pc := 27) dX11_debt_27 rfl rfl ?_
    have hz : ¬ (((0 ≤ f ∧ f ≤ (rdY G I L).1.1 6 - 1) ∧ (0 ≤ t ∧ t ≤ (rdY G I L).1.1 6 - 1) ∧ f ≠ t) ∧ (1 ≤ n ∧ n ≤ 999)) := by
      first
      | exact fun hz => (wf h5) hz.1.1
      | exact fun hz => (wf h13) hz.1.2.1
      | exact fun hz => hz.1.2.2 (by omega)
    unfold debtS
    rw [if_neg hz]
    exact QY_bad h
  · skip
    refine r_aload_n (pc := 8) dX11_debt_8 rfl ?_
    refine r_iload_n (pc := 9) dX11_debt_9 rfl ?_
    refine i_V1ix (pc := 10) okX11_isFamily inX11_isFamily selX11_isFamily q336 dX11_debt_10 (by assumption) rfl (by decide) (Nat.le_of_ble_eq_true rfl) (sFam) ?_
    refine r_if_eq (pc := 13) 21 dX11_debt_13 (by decide) (by first | omega | (split <;> decide)) (fun h13 => ?_) (fun h13 => ?_)
    · skip
      refine r_aload_n (pc := 21) dX11_debt_21 rfl ?_
      refine r_bipush (pc := 22) dX11_debt_22 (by decide) ?_
      refine i_V1ix (pc := 24) okX11_refuseBad inX11_refuseBad selX11_refuseBad q320 dX11_debt_24 (by assumption) rfl (by decide) (Nat.le_of_ble_eq_true rfl) (sX11_refuseBad) ?_
      refine t_iret (pc := 27) dX11_debt_27 rfl rfl ?_
      have hz : ¬ (((0 ≤ f ∧ f ≤ (rdY G I L).1.1 6 - 1) ∧ (0 ≤ t ∧ t ≤ (rdY G I L).1.1 6 - 1) ∧ f ≠ t) ∧ (1 ≤ n ∧ n ≤ 999)) := by
        first
        | exact fun hz => (wf h5) hz.1.1
        | exact fun hz => (wf h13) hz.1.2.1
        | exact fun hz => hz.1.2.2 (by omega)
      unfold debtS
      rw [if_neg hz]
      exact QY_bad h
    · skip
      refine r_iload_n (pc := 16) dX11_debt_16 rfl ?_
      refine r_iload_n (pc := 17) dX11_debt_17 rfl ?_
      refine r_icmp_ne (pc := 18) 28 dX11_debt_18 (by decide) (by first | omega | (split <;> decide)) (by first | omega | (split <;> decide)) (fun h18 => ?_) (fun h18 => ?_)
      · skip
        refine r_iload_n (pc := 28) dX11_debt_28 rfl ?_
        refine r_iconst (pc := 29) dX11_debt_29 ?_
        refine r_sipush (pc := 30) dX11_debt_30 (by decide) ?_
        refine i_S3ix (pc := 33) okX11_within staX11_within q317 dX11_debt_33 (by decide) (Nat.le_of_ble_eq_true rfl) (sX11_within) ?_
        refine r_if_ne (pc := 36) 46 dX11_debt_36 (by decide) (by first | omega | (split <;> decide)) (fun h36 => ?_) (fun h36 => ?_)
        · skip
          refine r_aload_n (pc := 46) dX11_debt_46 rfl ?_
          refine r_getP (pc := 47) dX11_debt_47 frX11_40 (by assumption) (by assumption) ?_
          refine r_getP (pc := 50) dX11_debt_50 frX11_191 (by assumption) (by assumption) ?_
          refine r_getI (pc := 53) dX11_debt_53 frX11_195 (by assumption) ?_
          refine r_bipush (pc := 56) dX11_debt_56 (by decide) ?_
          refine r_icmp_lt (pc := 58) 66 dX11_debt_58 (by decide) (by first | omega | (split <;> decide)) (by first | omega | (split <;> decide)) (fun h58 => ?_) (fun h58 => ?_)
          · skip
            refine r_aload_n (pc := 66) dX11_debt_66 rfl ?_
            refine r_getP (pc := 67) dX11_debt_67 frX11_40 (by assumption) (by assumption) ?_
            refine r_getP (pc := 70) dX11_debt_70 frX11_191 (by assumption) (by assumption) ?_
            refine r_iload_n (pc := 73) dX11_debt_73 rfl ?_
            refine r_iload_n (pc := 74) dX11_debt_74 rfl ?_
            refine r_iload_n (pc := 75) dX11_debt_75 rfl ?_
            have h1 := wt h5
            have h2 := wt h13
            have h3 := wt h36
            have hlt : rdB I (gB G + 12) 33 < 8 := by omega
            refine i_V3ig (pc := 76) okX0_addDebt inX0_addDebt selX0_addDebt q612 dX11_debt_76 (by assumption) rfl (by decide) (Nat.le_of_ble_eq_true rfl) (sX0_addDebt (n := (rdB I (gB G + 12) 33).toNat)) (fun r3 I3 P3 L3 hq3 => ?_)
            obtain ⟨rfl, hT3, hO3, rfl, rfl⟩ := hq3
            refine t_iret (pc := 79) dX11_debt_79 rfl rfl ?_
            unfold debtS
            rw [if_pos ⟨⟨h1, h2, by omega⟩, h3⟩, if_pos (show (rdY G I L).1.2.1 33 < 8 from hlt)]
            refine ⟨by show _ = rdB I (gB G + 12) 33; omega, rdY_lump ((outL.rf I _).b hO3) ?_, h.book hO3 ?_⟩
            · rw [rdL_book hO3, hT3]; rfl
            · rw [hT3]; exact BI_debt hBI (by omega) (by omega) (by omega) (by omega)
          · skip
            refine r_aload_n (pc := 61) dX11_debt_61 rfl ?_
            refine i_V0ix (pc := 62) okX11_refuseFull inX11_refuseFull selX11_refuseFull q608 dX11_debt_62 (by assumption) rfl (by decide) (Nat.le_of_ble_eq_true rfl) (sX11_refuseFull) ?_
            refine t_iret (pc := 65) dX11_debt_65 rfl rfl ?_
            unfold debtS
            rw [if_pos ⟨⟨wt h5, wt h13, by omega⟩, wt h36⟩, if_neg (by show ¬ rdB I (gB G + 12) 33 < 8; omega)]
            exact QY_full h
        · skip
          refine r_aload_n (pc := 39) dX11_debt_39 rfl ?_
          refine r_bipush (pc := 40) dX11_debt_40 (by decide) ?_
          refine i_V1ix (pc := 42) okX11_refuseBad inX11_refuseBad selX11_refuseBad q320 dX11_debt_42 (by assumption) rfl (by decide) (Nat.le_of_ble_eq_true rfl) (sX11_refuseBad) ?_
          refine t_iret (pc := 45) dX11_debt_45 rfl rfl ?_
          unfold debtS
          rw [if_neg (fun hz => (wf h36) hz.2)]
          exact QY_bad h
      · skip
        refine r_aload_n (pc := 21) dX11_debt_21 rfl ?_
        refine r_bipush (pc := 22) dX11_debt_22 (by decide) ?_
        refine i_V1ix (pc := 24) okX11_refuseBad inX11_refuseBad selX11_refuseBad q320 dX11_debt_24 (by assumption) rfl (by decide) (Nat.le_of_ble_eq_true rfl) (sX11_refuseBad) ?_
        refine t_iret (pc := 27) dX11_debt_27 rfl rfl ?_
        have hz : ¬ (((0 ≤ f ∧ f ≤ (rdY G I L).1.1 6 - 1) ∧ (0 ≤ t ∧ t ≤ (rdY G I L).1.1 6 - 1) ∧ f ≠ t) ∧ (1 ≤ n ∧ n ≤ 999)) := by
          first
          | exact fun hz => (wf h5) hz.1.1
          | exact fun hz => (wf h13) hz.1.2.1
          | exact fun hz => hz.1.2.2 (by omega)
        unfold debtS
        rw [if_neg hz]
        exact QY_bad h
def repoS (S : YS) (y f n : Int) : Int × YS := if ((0 ≤ y ∧ y ≤ 99) ∧ (0 ≤ f ∧ f ≤ S.1.1 6 - 1)) ∧ (0 ≤ n ∧ n ≤ 9999) then (if S.1.2.1 59 < 10 then (S.1.2.1 59, yLu S (lBk S.1 (repoB S.1.2.1 (S.1.2.1 59).toNat y f n))) else (-4, yF S)) else (-2, yB S)

