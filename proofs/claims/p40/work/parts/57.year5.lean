/-! the calls that change the farm alone, or the books alone -/
def lF (S : LSt) (F : Nat → Int) : LSt := (F, S.2)
def lBk (S : LSt) (B : Nat → Int) : LSt := (S.1, B, S.2.2)
theorem rdL_farm {I I1 : MI} {l : Nat} (h : outF I I1 (l + 10)) : rdL I1 l = lF (rdL I l) (rdF I1 (l + 10)) := by
  refine rdL_mk rfl (rdB_oF h (by omega)) (by rw [h l (by omega)]) (by rw [h l (by omega)]) (fun i hi => ?_) (fun i hi => rdL_p6 hi)
  show _ = (rdL I l).2.2.2.2 i
  rw [rdL_p hi]; exact rdF_out h (by omega)
theorem rdL_book {I I1 : MI} {l : Nat} (h : outB I I1 (l + 1)) : rdL I1 l = lBk (rdL I l) (rdB I1 (l + 1)) := by
  refine rdL_mk (rdF_oB h (by omega)) rfl (by rw [h l (by omega)]) (by rw [h l (by omega)]) (fun i hi => ?_) (fun i hi => rdL_p6 hi)
  show _ = (rdL I l).2.2.2.2 i
  rw [rdL_p hi]; exact rdF_oB h (by omega)
theorem UI_F {S : LSt} {F : Nat → Int} (h : UI S) (h6 : S.1 6 ≤ F 6) (h0 : F 0 = S.1 0) : UI (lF S F) := fun j hj => by
  obtain ⟨a, b⟩ := h j hj
  exact ⟨Int.le_trans a h6, b.trans h0.symm⟩
theorem YI.farm {G : WG} {C : CF} {I I1 : MI} {P P1 : MP} {Y : Int} (h : YI G C I P Y) (hi : outF I I1 (gB G + 21)) (hp : outP P P1 (gB G + 21)) (hW : WayL C P1 (gB G + 21) (rdF I1 (gB G + 21))) (hF : FI (rdF I1 (gB G + 21)) Y) (h6 : rdF I (gB G + 21) 6 ≤ rdF I1 (gB G + 21) 6) (h0 : rdF I1 (gB G + 21) 0 = rdF I (gB G + 21) 0) : YI G C I1 P1 Y := by
  have hL := h.2.1.1
  have e := rdL_farm (I := I) (I1 := I1) (l := gB G + 11) hi
  refine h.lump ((outL.rf I _).f hi) ((outQ.rf P _).f hp) (h.1.2.2.2.2.2.2.2.2.2.2.1.p hp (Or.inr (Or.inr ⟨1, by omega, by omega, by omega⟩))) ?_ ?_ ?_ (Int.le_refl Y)
  · rw [e]; exact ⟨hF, hL.2.1, hL.2.2.1, hL.2.2.2.1, hL.2.2.2.2⟩
  · rw [e]; exact ⟨hW, fun i hi2 => (h.2.2.1.1.2 i hi2).p hp (by omega)⟩
  · rw [e]; exact UI_F h.2.2.2.1.1 h6 h0
theorem YI.book {G : WG} {C : CF} {I I1 : MI} {P : MP} {Y : Int} (h : YI G C I P Y) (hi : outB I I1 (gB G + 12)) (hB : BI (rdB I1 (gB G + 12))) : YI G C I1 P Y := by
  have hL := h.2.1.1
  have e := rdL_book (I := I) (I1 := I1) (l := gB G + 11) hi
  refine h.lump ((outL.rf I _).b hi) (outQ.rf P _) h.1.2.2.2.2.2.2.2.2.2.2.1 ?_ ?_ ?_ (Int.le_refl Y)
  · rw [e]; exact ⟨hL.1, hB, hL.2.2.1, hL.2.2.2.1, hL.2.2.2.2⟩
  · rw [e]; exact h.2.2.1.1
  · rw [e]; exact h.2.2.2.1.1
theorem wt {p : Prop} [Decidable p] (h : ¬ (if p then (1 : Int) else 0) = 0) : p := by
  by_cases hp : p
  · exact hp
  · rw [if_neg hp] at h; exact absurd rfl h
theorem wf {p : Prop} [Decidable p] (h : (if p then (1 : Int) else 0) = 0) : ¬ p := by
  intro hp
  rw [if_pos hp] at h
  exact absurd h (by decide)
def storeS (S : YS) (w n : Int) : Int × YS := if (0 ≤ w ∧ w ≤ 3) ∧ (0 ≤ n ∧ n ≤ 9999) then (S.1.1 (2 + w.toNat), yLu S (lF S.1 (up S.1.1 (2 + w.toNat) n))) else (-2, yB S)
theorem sX11_store {G : WG} {C : CF} {I : MI} {P : MP} {L : ML} {Y w n : Int} (h : YI G C I P Y := by assumption) (hw : iR w := by omega) (hn : iR n := by omega) : SX11_store G [.ref (gB G), .int (zI w), .int (zI n)] C I P L (NI C (QY G (storeS (rdY G I L) w n).1 (storeS (rdY G I L) w n).2 Y C)) := by
  have hyl := h.1
  obtain ⟨hK, hK4, hP0, hP1, hP2, hP3, hP4, hP5, hP6, hr, hl, -⟩ := id hyl
  have hKl := hl.2.1
  have hPl : P (gB G + 11) 0 = some (gB G + 21) := hl.2.2.2.1
  have hf : FarmL G C P (gB G + 21) := hl.2.2.2.2.2.2.2.1
  have hKf := hf.2.1
  have hF : FI (rdF I (gB G + 21)) Y := h.2.1.1.1
  have hW : WayL C P (gB G + 21) (rdF I (gB G + 21)) := h.2.2.1.1.1
  refine en_I (by decide +kernel) (Nat.le_of_ble_eq_true rfl) ?_
  change Wd _ _ _ _ _ _ _ _ 0 [some _, some _, some _, none] [] _ _ _ _
  refine r_iload_n (pc := 0) dX11_store_0 rfl ?_
  refine r_iconst (pc := 1) dX11_store_1 ?_
  refine r_iconst (pc := 2) dX11_store_2 ?_
  refine i_S3ix (pc := 3) okX11_within staX11_within q317 dX11_store_3 (by decide) (Nat.le_of_ble_eq_true rfl) (sX11_within) ?_
  refine r_if_eq (pc := 6) 20 dX11_store_6 (by decide) (by first | omega | (split <;> decide)) (fun h6 => ?_) (fun h6 => ?_)
  · skip
    refine r_aload_n (pc := 20) dX11_store_20 rfl ?_
    refine r_bipush (pc := 21) dX11_store_21 (by decide) ?_
    refine i_V1ix (pc := 23) okX11_refuseBad inX11_refuseBad selX11_refuseBad q320 dX11_store_23 (by assumption) rfl (by decide) (Nat.le_of_ble_eq_true rfl) (sX11_refuseBad) ?_
    refine t_iret (pc := 26) dX11_store_26 rfl rfl ?_
    have hz : ¬ ((0 ≤ w ∧ w ≤ 3) ∧ (0 ≤ n ∧ n ≤ 9999)) := by
      first
      | exact fun hz => (wf h6) hz.1
      | exact fun hz => (wf h17) hz.2
    unfold storeS
    rw [if_neg hz]
    exact QY_bad h
  · skip
    refine r_iload_n (pc := 9) dX11_store_9 rfl ?_
    refine r_iconst (pc := 10) dX11_store_10 ?_
    refine r_sipush (pc := 11) dX11_store_11 (by decide) ?_
    refine i_S3ix (pc := 14) okX11_within staX11_within q317 dX11_store_14 (by decide) (Nat.le_of_ble_eq_true rfl) (sX11_within) ?_
    refine r_if_ne (pc := 17) 27 dX11_store_17 (by decide) (by first | omega | (split <;> decide)) (fun h17 => ?_) (fun h17 => ?_)
    · skip
      refine r_aload_n (pc := 27) dX11_store_27 rfl ?_
      refine r_getP (pc := 28) dX11_store_28 frX11_40 (by assumption) (by assumption) ?_
      refine r_getP (pc := 31) dX11_store_31 frX11_72 (by assumption) (by assumption) ?_
      refine r_iload_n (pc := 34) dX11_store_34 rfl ?_
      have h1 := wt h6
      have h2 := wt h17
      refine i_V1ix (pc := 35) okX2_stock inX2_stock selX2_stock q324 dX11_store_35 (by assumption) rfl (by decide) (Nat.le_of_ble_eq_true rfl) (sX2_stock (w := w.toNat)) ?_
      refine r_istore_n (pc := 38) dX11_store_38 (by decide) ?_
      refine r_aload_n (pc := 39) dX11_store_39 rfl ?_
      refine r_getP (pc := 40) dX11_store_40 frX11_40 (by assumption) (by assumption) ?_
      refine r_getP (pc := 43) dX11_store_43 frX11_72 (by assumption) (by assumption) ?_
      refine r_iload_n (pc := 46) dX11_store_46 rfl ?_
      refine r_iload_n (pc := 47) dX11_store_47 rfl ?_
      refine i_V2vg (pc := 48) okX2_restock inX2_restock selX2_restock q328 dX11_store_48 (by assumption) rfl (by decide) (Nat.le_of_ble_eq_true rfl) (sX2_restock (w := w.toNat)) (fun I3 P3 L3 hq3 => ?_)
      obtain ⟨hT3, hO3, rfl, rfl⟩ := hq3
      refine r_iload_n (pc := 51) dX11_store_51 rfl ?_
      refine t_iret (pc := 52) dX11_store_52 rfl rfl ?_
      unfold storeS
      rw [if_pos ⟨h1, h2⟩]
      refine ⟨rfl, rdY_lump ((outL.rf I _).f hO3) ?_, h.farm hO3 (outP.rf P _) ?_ ?_ ?_ ?_⟩
      · rw [rdL_farm hO3, hT3]; rfl
      · rw [hT3]; exact way_fx hW (fun g hg => up_n _ _ (by omega))
      · rw [hT3]; exact FI_st hF (by omega) h2.1 h2.2
      · rw [hT3, up_n _ _ (by omega)]; exact Int.le_refl _
      · rw [hT3, up_n _ _ (by omega)]
    · skip
      refine r_aload_n (pc := 20) dX11_store_20 rfl ?_
      refine r_bipush (pc := 21) dX11_store_21 (by decide) ?_
      refine i_V1ix (pc := 23) okX11_refuseBad inX11_refuseBad selX11_refuseBad q320 dX11_store_23 (by assumption) rfl (by decide) (Nat.le_of_ble_eq_true rfl) (sX11_refuseBad) ?_
      refine t_iret (pc := 26) dX11_store_26 rfl rfl ?_
      have hz : ¬ ((0 ≤ w ∧ w ≤ 3) ∧ (0 ≤ n ∧ n ≤ 9999)) := by
        first
        | exact fun hz => (wf h6) hz.1
        | exact fun hz => (wf h17) hz.2
      unfold storeS
      rw [if_neg hz]
      exact QY_bad h
def familyS (S : YS) (k m y : Int) : Int × YS := if ((0 ≤ k ∧ k ≤ 4) ∧ (1 ≤ m ∧ m ≤ 20)) ∧ (0 ≤ y ∧ y ≤ 9) then (if S.1.1 6 < 6 then (S.1.1 6, yLu S (lF S.1 (setlF S.1.1 (sizeF S.1.1) k m y))) else (-4, yF S)) else (-2, yB S)
theorem sX11_family {G : WG} {C : CF} {I : MI} {P : MP} {L : ML} {Y k m y : Int} (h : YI G C I P Y := by assumption) (hk : iR k := by omega) (hm : iR m := by omega) (hy : iR y := by omega) : SX11_family G [.ref (gB G), .int (zI k), .int (zI m), .int (zI y)] C I P L (NI C (QY G (familyS (rdY G I L) k m y).1 (familyS (rdY G I L) k m y).2 Y C)) := by
  have hyl := h.1
  obtain ⟨hK, hK4, hP0, hP1, hP2, hP3, hP4, hP5, hP6, hr, hl, hl2, hl3, hl4, htr, hKd⟩ := id hyl
  have hKl := hl.2.1
  have hPl : P (gB G + 11) 0 = some (gB G + 21) := hl.2.2.2.1
  have hf : FarmL G C P (gB G + 21) := hl.2.2.2.2.2.2.2.1
  have hKf := hf.2.1
  have hF : FI (rdF I (gB G + 21)) Y := h.2.1.1.1
  have hW : WayL C P (gB G + 21) (rdF I (gB G + 21)) := h.2.2.1.1.1
  have hs6 := hF.2.2.2.2.2.2.1
  have e10 : I (gB G + 21) 10 = rdF I (gB G + 21) 6 := at_10 I (gB G + 21)
  refine en_I (by decide +kernel) (Nat.le_of_ble_eq_true rfl) ?_
  change Wd _ _ _ _ _ _ _ _ 0 [some _, some _, some _, some _] [] _ _ _ _
  refine r_iload_n (pc := 0) dX11_family_0 rfl ?_
  refine r_iconst (pc := 1) dX11_family_1 ?_
  refine r_iconst (pc := 2) dX11_family_2 ?_
  refine i_S3ix (pc := 3) okX11_within staX11_within q317 dX11_family_3 (by decide) (Nat.le_of_ble_eq_true rfl) (sX11_within) ?_
  refine r_if_eq (pc := 6) 19 dX11_family_6 (by decide) (by first | omega | (split <;> decide)) (fun h6 => ?_) (fun h6 => ?_)
  · skip
    refine r_aload_n (pc := 19) dX11_family_19 rfl ?_
    refine r_bipush (pc := 20) dX11_family_20 (by decide) ?_
    refine i_V1ix (pc := 22) okX11_refuseBad inX11_refuseBad selX11_refuseBad q320 dX11_family_22 (by assumption) rfl (by decide) (Nat.le_of_ble_eq_true rfl) (sX11_refuseBad) ?_
    refine t_iret (pc := 25) dX11_family_25 rfl rfl ?_
    have hz : ¬ (((0 ≤ k ∧ k ≤ 4) ∧ (1 ≤ m ∧ m ≤ 20)) ∧ (0 ≤ y ∧ y ≤ 9)) := by
      first
      | exact fun hz => (wf h6) hz.1.1
      | exact fun hz => (wf h16) hz.1.2
    unfold familyS
    rw [if_neg hz]
    exact QY_bad h
  · skip
    refine r_iload_n (pc := 9) dX11_family_9 rfl ?_
    refine r_iconst (pc := 10) dX11_family_10 ?_
    refine r_bipush (pc := 11) dX11_family_11 (by decide) ?_
    refine i_S3ix (pc := 13) okX11_within staX11_within q317 dX11_family_13 (by decide) (Nat.le_of_ble_eq_true rfl) (sX11_within) ?_
    refine r_if_ne (pc := 16) 26 dX11_family_16 (by decide) (by first | omega | (split <;> decide)) (fun h16 => ?_) (fun h16 => ?_)
    · skip
      refine r_iload_n (pc := 26) dX11_family_26 rfl ?_
      refine r_iconst (pc := 27) dX11_family_27 ?_
      refine r_bipush (pc := 28) dX11_family_28 (by decide) ?_
      refine i_S3ix (pc := 30) okX11_within staX11_within q317 dX11_family_30 (by decide) (Nat.le_of_ble_eq_true rfl) (sX11_within) ?_
      refine r_if_ne (pc := 33) 43 dX11_family_33 (by decide) (by first | omega | (split <;> decide)) (fun h33 => ?_) (fun h33 => ?_)
      · skip
        refine r_aload_n (pc := 43) dX11_family_43 rfl ?_
        refine r_getP (pc := 44) dX11_family_44 frX11_40 (by assumption) (by assumption) ?_
        refine r_getP (pc := 47) dX11_family_47 frX11_72 (by assumption) (by assumption) ?_
        refine r_getI (pc := 50) dX11_family_50 frX11_93 (by assumption) ?_
        rw [e10]
        refine r_bipush (pc := 53) dX11_family_53 (by decide) ?_
        refine r_icmp_lt (pc := 55) 63 dX11_family_55 (by decide) (by first | omega | (split <;> decide)) (by first | omega | (split <;> decide)) (fun h55 => ?_) (fun h55 => ?_)
        · skip
          refine r_aload_n (pc := 63) dX11_family_63 rfl ?_
          refine r_getP (pc := 64) dX11_family_64 frX11_40 (by assumption) (by assumption) ?_
          refine r_getP (pc := 67) dX11_family_67 frX11_72 (by assumption) (by assumption) ?_
          refine r_iload_n (pc := 70) dX11_family_70 rfl ?_
          refine r_iload_n (pc := 71) dX11_family_71 rfl ?_
          refine r_iload_n (pc := 72) dX11_family_72 rfl ?_
          have h1 := wt h6
          have h2 := wt h16
          have h3 := wt h33
          have hlt : rdF I (gB G + 21) 6 < 6 := by omega
          refine i_V3ig (pc := 73) okX2_settle inX2_settle selX2_settle q741 dX11_family_73 (by assumption) rfl (by decide) (Nat.le_of_ble_eq_true rfl) (sX2_settle (Y := Y)) (fun r3 I3 P3 L3 hq3 => ?_)
          obtain ⟨rfl, hT3, hO3, hOP3, hW3, rfl⟩ := hq3
          refine t_iret (pc := 76) dX11_family_76 rfl rfl ?_
          unfold familyS
          rw [if_pos ⟨⟨h1, h2⟩, h3⟩, if_pos (show (rdY G I L).1.1 6 < 6 from hlt)]
          refine ⟨rfl, rdY_lump ((outL.rf I _).f hO3) ?_, h.farm hO3 hOP3 ?_ ?_ ?_ ?_⟩
          · rw [rdL_farm hO3, hT3]; rfl
          · rw [hT3]; exact hW3
          · rw [hT3]; exact FI_setl hF hlt h1 h2 h3
          · rw [hT3, setlF, up_n _ _ (by omega), up_n _ _ (by omega), up_n _ _ (by omega), up_n _ _ (by omega), up_s]; omega
          · rw [hT3, setlF, up_n _ _ (by omega), up_n _ _ (by omega), up_n _ _ (by omega), up_n _ _ (by omega), up_n _ _ (by omega)]
        · skip
          refine r_aload_n (pc := 58) dX11_family_58 rfl ?_
          refine i_V0ix (pc := 59) okX11_refuseFull inX11_refuseFull selX11_refuseFull q608 dX11_family_59 (by assumption) rfl (by decide) (Nat.le_of_ble_eq_true rfl) (sX11_refuseFull) ?_
          refine t_iret (pc := 62) dX11_family_62 rfl rfl ?_
          unfold familyS
          rw [if_pos ⟨⟨wt h6, wt h16⟩, wt h33⟩, if_neg (by show ¬ rdF I (gB G + 21) 6 < 6; omega)]
          exact QY_full h
      · skip
        refine r_aload_n (pc := 36) dX11_family_36 rfl ?_
        refine r_bipush (pc := 37) dX11_family_37 (by decide) ?_
        refine i_V1ix (pc := 39) okX11_refuseBad inX11_refuseBad selX11_refuseBad q320 dX11_family_39 (by assumption) rfl (by decide) (Nat.le_of_ble_eq_true rfl) (sX11_refuseBad) ?_
        refine t_iret (pc := 42) dX11_family_42 rfl rfl ?_
        unfold familyS
        rw [if_neg (fun hz => (wf h33) hz.2)]
        exact QY_bad h
    · skip
      refine r_aload_n (pc := 19) dX11_family_19 rfl ?_
      refine r_bipush (pc := 20) dX11_family_20 (by decide) ?_
      refine i_V1ix (pc := 22) okX11_refuseBad inX11_refuseBad selX11_refuseBad q320 dX11_family_22 (by assumption) rfl (by decide) (Nat.le_of_ble_eq_true rfl) (sX11_refuseBad) ?_
      refine t_iret (pc := 25) dX11_family_25 rfl rfl ?_
      have hz : ¬ (((0 ≤ k ∧ k ≤ 4) ∧ (1 ≤ m ∧ m ≤ 20)) ∧ (0 ≤ y ∧ y ≤ 9)) := by
        first
        | exact fun hz => (wf h6) hz.1.1
        | exact fun hz => (wf h16) hz.1.2
      unfold familyS
      rw [if_neg hz]
      exact QY_bad h


