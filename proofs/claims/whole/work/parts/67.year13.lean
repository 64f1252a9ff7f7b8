/-! meant -/
theorem apR_congr (B : Nat → Int) (v : Nat) {R R2 : Nat → Int} (h : ∀ k, k < 6 → R k = R2 k) : ∀ n, n ≤ 6 → apR B v R n = apR B v R2 n := by
  intro n
  induction n with
  | zero => intro _; rfl
  | succ n ih => intro hn; unfold apR; rw [ih (by omega), h n (by omega)]
theorem nwF_congr (B : Nat → Int) {R R2 : Nat → Int} (h : ∀ k, k < 6 → R k = R2 k) : ∀ w, nwF B R w = nwF B R2 w := by
  intro w
  induction w with
  | zero => rfl
  | succ w ih => unfold nwF; rw [ih, apR_congr B w h 6 (Nat.le_refl 6)]
def meantS (S : YS) (R : Nat → Int) : Int × YS := if letN R 6 = true then ((nwF S.1.2.1 R (S.1.2.1 90).toNat).1, S) else (-2, yB S)
theorem sX11_meant {G : WG} {C : CF} {I : MI} {P : MP} {L : ML} {Y a b c d e f : Int} (h : YI G C I P Y := by assumption) (ha : iR a := by omega) (hb' : iR b := by omega) (hc : iR c := by omega) (hd : iR d := by omega) (he : iR e := by omega) (hf : iR f := by omega) : SX11_meant G [.ref (gB G), .int (zI a), .int (zI b), .int (zI c), .int (zI d), .int (zI e), .int (zI f)] C I P L (NI C (QY G (meantS (rdY G I L) (rowL a b c d e f)).1 (meantS (rdY G I L) (rowL a b c d e f)).2 Y C)) := by
  have hyl := h.1
  obtain ⟨hK, hK4, hP0, hP1, hP2, hP3, hP4, hP5, hP6, hr, hl, -⟩ := id hyl
  have hKl := hl.2.1
  have hPb : P (gB G + 11) 1 = some (gB G + 12) := hl.2.2.2.2.1
  have hb : BooksL G C P (gB G + 12) := hl.2.2.2.2.2.2.1
  have hKb := hb.2.1
  have hBI : BI (rdB I (gB G + 12)) := h.2.1.1.2.1
  have hw4 := hBI.2.2.2.1
  refine en_I (by decide +kernel) (Nat.le_of_ble_eq_true rfl) ?_
  change Wd _ _ _ _ _ _ _ _ 0 [some _, some _, some _, some _, some _, some _, some _] [] _ _ _ _
  refine r_aload_n (pc := 0) dX11_meant_0 rfl ?_
  refine r_iload_n (pc := 1) dX11_meant_1 rfl ?_
  refine r_iload_n (pc := 2) dX11_meant_2 rfl ?_
  refine r_iload_n (pc := 3) dX11_meant_3 rfl ?_
  refine r_iload (pc := 4) dX11_meant_4 rfl ?_
  refine r_iload (pc := 6) dX11_meant_6 rfl ?_
  refine r_iload (pc := 8) dX11_meant_8 rfl ?_
  refine i_V6ig (pc := 10) okX11_takeLetters inX11_takeLetters selX11_takeLetters q925 dX11_meant_10 (by assumption) rfl (by decide) (Nat.le_of_ble_eq_true rfl) (sX11_takeLetters) (fun r1 I1 P1 L1 hq1 => ?_)
  obtain ⟨rfl, hrow, hO1, rfl, rfl⟩ := hq1
  have hI1 := h.let hO1
  have hR1 : rdY G I1 L = rdY G I L := rdY_let hO1
  have eB : rdB I1 (gB G + 12) = rdB I (gB G + 12) := rdB_eqr (fun x hx => hO1 x (by omega))
  have hBI1 : BI (rdB I1 (gB G + 12)) := by rw [eB]; exact hBI
  have e3 : I1 (gB G + 12) 3 = ((rdB I (gB G + 12) 90).toNat : Int) := by rw [ab_3 I1 (gB G + 12), eB]; omega
  have hiR : ∀ i, i < 6 → iR (I1 (gB G + 4) i) := fun i hi => by rw [hrow i hi]; unfold rowL; (repeat' split) <;> assumption
  refine r_if_ne (pc := 13) 23 dX11_meant_13 (by decide) (by first | omega | exact iR_b _) (fun h13 => ?_) (fun h13 => ?_)
  · skip
    refine r_aload_n (pc := 23) dX11_meant_23 rfl ?_
    refine r_getP (pc := 24) dX11_meant_24 frX11_40 (by assumption) (by assumption) ?_
    refine r_getP (pc := 27) dX11_meant_27 frX11_191 (by assumption) (by assumption) ?_
    refine r_aload_n (pc := 30) dX11_meant_30 rfl ?_
    refine r_getA (pc := 31) dX11_meant_31 frX11_16 (by assumption) (by assumption) ?_
    refine i_V1ix (pc := 34) okX0_nearestWord inX0_nearestWord selX0_nearestWord q972 dX11_meant_34 (by assumption) rfl (by decide) (Nat.le_of_ble_eq_true rfl) (sX0_nearestWord (n := (rdB I (gB G + 12) 90).toNat)) ?_
    refine t_iret (pc := 37) dX11_meant_37 rfl rfl ?_
    unfold meantS
    rw [if_pos (bt h13)]
    refine ⟨?_, hR1, hI1⟩
    rw [eB, nwF_congr _ hrow]; rfl
  · skip
    refine r_aload_n (pc := 16) dX11_meant_16 rfl ?_
    refine r_bipush (pc := 17) dX11_meant_17 (by decide) ?_
    refine i_V1ix (pc := 19) okX11_refuseBad inX11_refuseBad selX11_refuseBad q337 dX11_meant_19 (by assumption) rfl (by decide) (Nat.le_of_ble_eq_true rfl) (sX11_refuseBad) ?_
    refine t_iret (pc := 22) dX11_meant_22 rfl rfl ?_
    unfold meantS
    rw [if_neg (bf h13), ← hR1]
    exact QY_bad hI1

