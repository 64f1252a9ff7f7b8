/-! years pass -/
def passN (S : LSt) : Nat → Int × LSt
  | 0 => (0, S)
  | n + 1 => ((passN S n).1 + wantF (passN S n).2.1 false, goL (passN S n).2)
def passS (S : YS) (n : Int) : Int × YS := if 1 ≤ n ∧ n ≤ 20 then ((passN S.1 n.toNat).1, yLu S (passN S.1 n.toNat).2) else (-2, yB S)
theorem sX11_pass {G : WG} {C : CF} {I : MI} {P : MP} {L : ML} {Y n : Int} (h : YI G C I P Y := by assumption) (hY : Y ≤ 900000 := by omega) (hn' : iR n := by omega) : SX11_pass G [.ref (gB G), .int (zI n)] C I P L (NI C (QY G (passS (rdY G I L) n).1 (passS (rdY G I L) n).2 (Y + 20) C)) := by
  have hyl := h.1
  obtain ⟨hK, -⟩ := id hyl
  have mono : ∀ {I1 : MI} {P1 : MP} {Z : Int}, Z ≤ Y + 20 → YI G C I1 P1 Z → YI G C I1 P1 (Y + 20) := fun hz hh => by
    obtain ⟨y0, ⟨l1, l2, l3, l4⟩, yw, yu, yr⟩ := hh
    exact ⟨y0, ⟨LI_le l1 hz, LI_le l2 hz, LI_le l3 hz, LI_le l4 hz⟩, yw, yu, yr⟩
  generalize hS : rdY G I L = S
  refine en_I (by decide +kernel) (Nat.le_of_ble_eq_true rfl) ?_
  change Wd _ _ _ _ _ _ _ _ 0 [some _, some _, none, none] [] _ _ _ _
  have loop : 1 ≤ n → n ≤ 20 → ∀ (d f : Nat) (i k : Int) (I1 : MI) (P1 : MP), f + d = n.toNat → i = (f : Int) → k = (passN S.1 f).1 → rdY G I1 L = yLu S (passN S.1 f).2 → YI G C I1 P1 (Y + f) → Wd G yX11_pass cX11_pass 4 (some .int) 6 (C.2.1 + 0, C.2.2 + 0) (NI C (QY G (passN S.1 n.toNat).1 (yLu S (passN S.1 n.toNat).2) (Y + 20) C)) 21 [some (.ref (gB G)), some (.int (zI n)), some (.int (zI k)), some (.int (zI i))] [] C I1 P1 L := by
    intro hn1 hn20 d
    induction d using Nat.strongRecOn with
    | _ d ih =>
      intro f i k I1 P1 hd hi hk hR hYI
      have y1 := hYI.1
      have hP0 := y1.2.2.1
      have hl := y1.2.2.2.2.2.2.2.2.2.2.1
      have hKl := hl.2.1
      have hWs := hYI.2.2.1.1
      have hLI := hYI.2.1.1
      have e1 : rdL I1 (gB G + 11) = (passN S.1 f).2 := congrArg (fun T : YS => T.1) hR
      refine r_iload_n (pc := 21) dX11_pass_21 rfl ?_
      refine r_iload_n (pc := 22) dX11_pass_22 rfl ?_
      refine r_icmp_ge (pc := 23) 42 dX11_pass_23 (by decide) (by omega) (by omega) (fun h23 => ?_) (fun h23 => ?_)
      · skip
        refine r_iload_n (pc := 42) dX11_pass_42 rfl ?_
        refine t_iret (pc := 43) dX11_pass_43 rfl rfl ?_
        rw [show n.toNat = f by omega]
        exact ⟨hk, hR, mono (by omega) hYI⟩
      · skip
        refine r_iload_n (pc := 26) dX11_pass_26 rfl ?_
        refine r_aload_n (pc := 27) dX11_pass_27 rfl ?_
        refine r_getP (pc := 28) dX11_pass_28 frX11_40 (by assumption) (by assumption) ?_
        refine i_V0ig (pc := 31) okX5_goBy inX5_goBy selX5_goBy q348 dX11_pass_31 (by assumption) rfl (by decide) (Nat.le_of_ble_eq_true rfl) (sX5_goBy (Y := Y + f)) (fun r3 I3 P3 L3 hq3 => ?_)
        obtain ⟨rfl, hT3, hO3, hQ3, hl3, hW3, rfl⟩ := hq3
        have hI3 : YI G C I3 P3 (Y + f + 1) := hYI.lump hO3 hQ3 hl3 (by rw [hT3]; exact LI_go hLI) (by rw [hT3]; exact hW3) (by rw [hT3]; exact UI_go hYI.2.2.2.1.1 hLI.2.2.1) (by omega)
        refine r_iadd (pc := 34) dX11_pass_34 ?_
        refine r_istore_n (pc := 35) dX11_pass_35 (by decide) ?_
        refine r_iinc (pc := 36) dX11_pass_36 rfl ?_
        refine r_goto (pc := 39) 21 dX11_pass_39 (by decide) ?_
        refine ih (d - 1) (by omega) (f + 1) _ _ _ _ (by omega) (by omega) ?_ ?_ ?_
        · rw [passN, hk, e1]
        · rw [rdY_lump hO3 hT3, hR, e1]; rfl
        · rw [show Y + ((f + 1 : Nat) : Int) = Y + f + 1 by omega]; exact hI3
  refine r_iload_n (pc := 0) dX11_pass_0 rfl ?_
  refine r_iconst (pc := 1) dX11_pass_1 ?_
  refine r_bipush (pc := 2) dX11_pass_2 (by decide) ?_
  refine i_S3ix (pc := 4) okX11_within staX11_within q317 dX11_pass_4 (by decide) (Nat.le_of_ble_eq_true rfl) (sX11_within) ?_
  refine r_if_ne (pc := 7) 17 dX11_pass_7 (by decide) (by first | omega | (split <;> decide)) (fun h7 => ?_) (fun h7 => ?_)
  · skip
    refine r_iconst (pc := 17) dX11_pass_17 ?_
    refine r_istore_n (pc := 18) dX11_pass_18 (by decide) ?_
    refine r_iconst (pc := 19) dX11_pass_19 ?_
    refine r_istore_n (pc := 20) dX11_pass_20 (by decide) ?_
    have hz := wt h7
    unfold passS
    rw [if_pos hz]
    exact loop hz.1 hz.2 n.toNat 0 _ _ I P (by omega) (by omega) rfl (by rw [hS]; rfl) (by rw [show Y + ((0 : Nat) : Int) = Y by omega]; exact h)
  · skip
    refine r_aload_n (pc := 10) dX11_pass_10 rfl ?_
    refine r_bipush (pc := 11) dX11_pass_11 (by decide) ?_
    refine i_V1ix (pc := 13) okX11_refuseBad inX11_refuseBad selX11_refuseBad q320 dX11_pass_13 (by assumption) rfl (by decide) (Nat.le_of_ble_eq_true rfl) (sX11_refuseBad) ?_
    refine t_iret (pc := 16) dX11_pass_16 rfl rfl ?_
    unfold passS
    rw [if_neg (wf h7), ← hS]
    exact QY_bad (mono (by omega) h)


