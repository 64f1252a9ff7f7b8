/-! the calls: year, store -/
abbrev YS : Type := LSt × LSt × LSt × (Nat → Int) × Int × Int × Int × Int × Int × Int × Int
def rdY (G : WG) (I : MI) (L : ML) : YS := (rdL I (gB G + 11), rdL I (gB G + 171), rdL I (gB G + 251), I (gB G + 2), I (gB G + 1) 2, I (gB G) 7, I (gB G) 8, I (gB G) 9, I (gB G) 10, L (gB G) 11, L (gB G) 12)
def yB (S : YS) : YS := (S.1, S.2.1, S.2.2.1, S.2.2.2.1, S.2.2.2.2.1, S.2.2.2.2.2.1, S.2.2.2.2.2.2.1 + 1, S.2.2.2.2.2.2.2)
def yN (S : YS) : YS := (S.1, S.2.1, S.2.2.1, S.2.2.2.1, S.2.2.2.2.1, S.2.2.2.2.2.1, S.2.2.2.2.2.2.1, S.2.2.2.2.2.2.2.1 + 1, S.2.2.2.2.2.2.2.2)
def yF (S : YS) : YS := (S.1, S.2.1, S.2.2.1, S.2.2.2.1, S.2.2.2.2.1, S.2.2.2.2.2.1, S.2.2.2.2.2.2.1, S.2.2.2.2.2.2.2.1, S.2.2.2.2.2.2.2.2.1 + 1, S.2.2.2.2.2.2.2.2.2)
def yLu (S : YS) (T : LSt) : YS := (T, S.2)
/-- what a call leaves -/
def QY (G : WG) (e : Int) (S : YS) (Y : Int) (C : CF) : Int → MI → MP → ML → Prop := fun r I1 P1 L1 => r = e ∧ rdY G I1 L1 = S ∧ YI G C I1 P1 Y
theorem rdY_own {G : WG} {I I1 : MI} {L1 : ML} (h : ∀ x, x ≠ gB G → I1 x = I x) : rdY G I1 L1 = (rdL I (gB G + 11), rdL I (gB G + 171), rdL I (gB G + 251), I (gB G + 2), I (gB G + 1) 2, I1 (gB G) 7, I1 (gB G) 8, I1 (gB G) 9, I1 (gB G) 10, L1 (gB G) 11, L1 (gB G) 12) := by
  unfold rdY
  rw [rdL_eqr (I1 := I1) (I := I) (l := gB G + 11) (fun x hx => h x (by omega)), rdL_eqr (I1 := I1) (I := I) (l := gB G + 171) (fun x hx => h x (by omega)), rdL_eqr (I1 := I1) (I := I) (l := gB G + 251) (fun x hx => h x (by omega)), h (gB G + 2) (by omega), h (gB G + 1) (by omega)]
theorem u2_ow {G : WG} (I : MI) (k : Nat) (v : Int) : ∀ x, x ≠ gB G → (u2 I (gB G) k v) x = I x := fun x hx => by funext j; exact u2_a _ _ _ _ hx
theorem QY_bad {G : WG} {C : CF} {I : MI} {P : MP} {L : ML} {Y e : Int} (h : YI G C I P Y) : QY G e (yB (rdY G I L)) Y C e (u2 I (gB G) 8 (I (gB G) 8 + 1)) P L := ⟨rfl, by rw [rdY_own (u2_ow I 8 _), u2_s, u2_k _ _ _ _ (by decide), u2_k _ _ _ _ (by decide), u2_k _ _ _ _ (by decide)]; rfl, h.own (u2_ow I 8 _)⟩
theorem QY_no {G : WG} {C : CF} {I : MI} {P : MP} {L : ML} {Y e : Int} (h : YI G C I P Y) : QY G e (yN (rdY G I L)) Y C e (u2 I (gB G) 9 (I (gB G) 9 + 1)) P L := ⟨rfl, by rw [rdY_own (u2_ow I 9 _), u2_s, u2_k _ _ _ _ (by decide), u2_k _ _ _ _ (by decide), u2_k _ _ _ _ (by decide)]; rfl, h.own (u2_ow I 9 _)⟩
theorem QY_full {G : WG} {C : CF} {I : MI} {P : MP} {L : ML} {Y e : Int} (h : YI G C I P Y) : QY G e (yF (rdY G I L)) Y C e (u2 I (gB G) 10 (I (gB G) 10 + 1)) P L := ⟨rfl, by rw [rdY_own (u2_ow I 10 _), u2_s, u2_k _ _ _ _ (by decide), u2_k _ _ _ _ (by decide), u2_k _ _ _ _ (by decide)]; rfl, h.own (u2_ow I 10 _)⟩
theorem rdY_lump {G : WG} {I I1 : MI} {L : ML} {T : LSt} (h : outL I I1 (gB G + 11)) (hT : rdL I1 (gB G + 11) = T) : rdY G I1 L = yLu (rdY G I L) T := by
  unfold rdY yLu
  rw [hT, rdL_eqr (I1 := I1) (I := I) (l := gB G + 171) (fun x hx => h x (by omega)), rdL_eqr (I1 := I1) (I := I) (l := gB G + 251) (fun x hx => h x (by omega)), h (gB G + 2) (by omega), h (gB G + 1) (by omega), h (gB G) (by omega)]
def begL (S : LSt) (v : Int) : LSt := (begF S.1 v, begB S.2.1, S.2.2.1, 0, S.2.2.2.2)
theorem LI_beg {S : LSt} {Y v : Int} (h : LI S Y) (hY : 0 ≤ Y) (hv : 2 ≤ v ∧ v ≤ 70) : LI (begL S v) Y := ⟨FI_beg h.1 hY hv, BI_beg h.2.1, h.2.2.1, by show (0 : Int) ≤ 0 ∧ (0 : Int) ≤ 6; omega, h.2.2.2.2⟩
theorem UI_beg (S : LSt) (v : Int) : UI (begL S v) := fun j hj => by have : (j : Int) < 0 := hj; omega
def yearS (S : YS) (y : Int) : Int × YS := if 2 ≤ y ∧ y ≤ 70 then (S.1.1 0, yLu S (begL S.1 y)) else (-2, yB S)
theorem sX11_year {G : WG} {C : CF} {I : MI} {P : MP} {L : ML} {Y y : Int} (h : YI G C I P Y := by assumption) (hY : 0 ≤ Y := by omega) (hy : iR y := by omega) : SX11_year G [.ref (gB G), .int (zI y)] C I P L (NI C (QY G (yearS (rdY G I L) y).1 (yearS (rdY G I L) y).2 Y C)) := by
  have hyl := h.1
  obtain ⟨hK, hK4, hP0, hP1, hP2, hP3, hP4, hP5, hP6, hr, hl, -⟩ := id hyl
  have hKl := hl.2.1
  have hPl : P (gB G + 11) 0 = some (gB G + 21) := hl.2.2.2.1
  have hKf : C.1 (gB G + 21) = some (.inl 2) := hl.2.2.2.2.2.2.2.1.2.1
  have hW := h.2.2.1.1
  refine en_I (by decide +kernel) (Nat.le_of_ble_eq_true rfl) ?_
  change Wd _ _ _ _ _ _ _ _ 0 [some _, some _, none] [] _ _ _ _
  refine r_iload_n (pc := 0) dX11_year_0 rfl ?_
  refine r_iconst (pc := 1) dX11_year_1 ?_
  refine r_bipush (pc := 2) dX11_year_2 (by decide) ?_
  refine i_S3ix (pc := 4) okX11_within staX11_within q317 dX11_year_4 (by decide) (Nat.le_of_ble_eq_true rfl) (sX11_within) ?_
  refine r_if_ne (pc := 7) 17 dX11_year_7 (by decide) (by first | omega | (split <;> decide)) (fun h7 => ?_) (fun h7 => ?_)
  · skip
    refine r_aload_n (pc := 17) dX11_year_17 rfl ?_
    refine r_getP (pc := 18) dX11_year_18 frX11_40 (by assumption) (by assumption) ?_
    refine r_getP (pc := 21) dX11_year_21 frX11_72 (by assumption) (by assumption) ?_
    refine r_getI (pc := 24) dX11_year_24 frX11_76 (by assumption) ?_
    refine r_istore_n (pc := 27) dX11_year_27 (by decide) ?_
    refine r_aload_n (pc := 28) dX11_year_28 rfl ?_
    refine r_getP (pc := 29) dX11_year_29 frX11_40 (by assumption) (by assumption) ?_
    refine r_iload_n (pc := 32) dX11_year_32 rfl ?_
    refine i_V1vg (pc := 33) okX5_begin inX5_begin selX5_begin q722 dX11_year_33 (by assumption) rfl (by decide) (Nat.le_of_ble_eq_true rfl) (sX5_begin) (fun I3 P3 L3 hq3 => ?_)
    obtain ⟨hT3, hO3, hQ3, hl3, hW3, rfl⟩ := hq3
    refine r_iload_n (pc := 36) dX11_year_36 rfl ?_
    refine t_iret (pc := 37) dX11_year_37 rfl rfl ?_
    have hz : 2 ≤ y ∧ y ≤ 70 := by
      by_cases hz : 2 ≤ y ∧ y ≤ 70
      · exact hz
      · rw [if_neg hz] at h7; exact absurd rfl h7
    unfold yearS
    rw [if_pos hz]
    exact ⟨rfl, rdY_lump hO3 hT3, h.lump hO3 hQ3 hl3 (by rw [hT3]; exact LI_beg h.2.1.1 hY hz) (by rw [hT3]; exact hW3) (by rw [hT3]; exact UI_beg _ _) (Int.le_refl Y)⟩
  · skip
    refine r_aload_n (pc := 10) dX11_year_10 rfl ?_
    refine r_bipush (pc := 11) dX11_year_11 (by decide) ?_
    refine i_V1ix (pc := 13) okX11_refuseBad inX11_refuseBad selX11_refuseBad q320 dX11_year_13 (by assumption) rfl (by decide) (Nat.le_of_ble_eq_true rfl) (sX11_refuseBad) ?_
    refine t_iret (pc := 16) dX11_year_16 rfl rfl ?_
    have hz : ¬ (2 ≤ y ∧ y ≤ 70) := by
      intro hz
      rw [if_pos hz] at h7; omega
    unfold yearS
    rw [if_neg hz]
    exact QY_bad h


