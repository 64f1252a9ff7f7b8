/-! the reader reads an item -/
def LowL (G : WG) : Prop := (∀ i, i < 3 → gT G i < gB G) ∧ ∀ i, i < 5 → gV G i < gB G
def QI (r l : Nat) (X : RX) (Y : Int) (I : MI) (C : CF) (P : MP) (L : ML) : Int → MI → MP → ML → Prop := fun v I1 P1 L1 => v = (if X.1 = true then 1 else 0) ∧ I1 r 2 = I r 2 ∧ I1 r 3 = (X.2.1 : Int) ∧ I1 r 4 = (X.2.2.1 : Int) ∧ rdF I1 (l + 10) = X.2.2.2.1 ∧ rdB I1 (l + 1) = X.2.2.2.2.1 ∧ I1 (r + 2) = X.2.2.2.2.2 ∧ (∀ x, x ≠ r → x ≠ r + 2 → (x ≤ l ∨ l + 20 ≤ x ∨ x = l + 9) → I1 x = I x) ∧ outP P P1 (l + 10) ∧ WayL C P1 (l + 10) X.2.2.2.1 ∧ FI X.2.2.2.1 Y ∧ BI X.2.2.2.2.1 ∧ (∀ j, j < 3 → iR (X.2.2.2.2.2 j)) ∧ L = L1
theorem nums_in : ∀ j : Fin 5, 0 ≤ atT numsT j.val ∧ atT numsT j.val ≤ 3 := by decide +kernel
theorem rdF_eqr {I I1 : MI} {a : Nat} (h : ∀ x, (a ≤ x ∧ x < a + 10) → I1 x = I x) : rdF I1 a = rdF I a := by
  funext k
  simp only [rdF]
  rw [h a (by omega)]
  by_cases h7 : k < 7
  · rw [if_pos h7, if_pos h7]
  rw [if_neg h7, if_neg h7]
  by_cases h31 : k < 31
  · rw [if_pos h31, if_pos h31, h _ (by omega)]
  rw [if_neg h31, if_neg h31]
theorem rdB_eqr {I I1 : MI} {b : Nat} (h : ∀ x, (b ≤ x ∧ x < b + 8) → I1 x = I x) : rdB I1 b = rdB I b := by
  funext k
  simp only [rdB_def]
  rw [h b (by omega), h (b + 7) (by omega), h (b + 1 + (k - 34) % 3) (by omega), h (b + 4 + (k - 60) % 3) (by omega)]
theorem fb1 {it : Int} {fb : Bool} (h : it = 0) (h2 : (1 : Int) = if fb = true then 1 else 0) : decide (it = 0) = fb := by cases fb <;> simp_all
theorem fb0 {it : Int} {fb : Bool} (h : ¬ it = 0) (h2 : (0 : Int) = if fb = true then 1 else 0) : decide (it = 0) = fb := by
  cases fb with
  | false => exact decide_eq_false h
  | true => exact absurd h2 (by decide)
theorem fb1n {it : Int} {fb : Bool} (h : it = 0) (h2 : ¬ (1 : Int) = if fb = true then 1 else 0) : decide (it = 0) ≠ fb := by cases fb <;> simp_all
theorem fb0n {it : Int} {fb : Bool} (h : ¬ it = 0) (h2 : ¬ (0 : Int) = if fb = true then 1 else 0) : decide (it = 0) ≠ fb := by cases fb <;> simp_all
theorem sX7_readItem {G : WG} {C : CF} {I : MI} {P : MP} {L : ML} {r l n s e : Nat} {so Y : Int} {fb : Bool} (hr : ReadL G C P r := by assumption) (hI : ReadI I r n := by assumption) (hTx : TxtL G C I := by assumption) (hSt : StatL G C I := by assumption) (hLow : LowL G := by assumption) (hl : LumpL G C P l := by assumption) (hW : WayL C P (l + 10) (rdF I (l + 10)) := by assumption) (hKd : KindL G C P := by assumption) (hF : FI (rdF I (l + 10)) Y := by assumption) (hBI : BI (rdB I (l + 1)) := by assumption) (hs : I r 3 = (s : Int) := by assumption) (he : I r 4 = (e : Int) := by assumption) (hso : I r 5 = so := by assumption) (hse : s ≤ e ∧ e ≤ n := by omega) (hsr : 0 ≤ so ∧ so ≤ 4 := by omega) (ht : ∀ j, j < 3 → iR (I (r + 2) j) := by assumption) (hrl : r + 3 ≤ l := by omega) (hY : 0 ≤ Y := by omega) : SX7_readItem G [.ref r, .ref l, .int (zI (if fb then 1 else 0))] C I P L (NI C (QI r l (itemS (I (r + 1)) n s e so fb (rdF I (l + 10)) (rdB I (l + 1)) (I (r + 2))) Y I C P L)) := by
  obtain ⟨rB, rK, rK1, rK2, rP0, rP1⟩ := id hr
  obtain ⟨h2, h150, hbb⟩ := id hI
  obtain ⟨h0, hK, hK9, hP0, hP1, hP2, hb, hf, hp⟩ := id hl
  have hK10 := hf.2.1
  have hK1 := hb.2.1
  have e10 : I (l + 10) 10 = rdF I (l + 10) 6 := at_10 I (l + 10)
  have e33 : I (l + 1) 1 = rdB I (l + 1) 33 := ab_1 I (l + 1)
  have hF6 := hF.2.2.2.2.2.2.1
  have hB33 := hBI.2.1
  have hitm := itemB_in (I (r + 1)) s e so
  generalize hbG : I (r + 1) = b at *
  generalize hitG : itemB b s e so = it at *
  generalize hFG : rdF I (l + 10) = F at *
  generalize hBG : rdB I (l + 1) = B at *
  generalize htG : I (r + 2) = t at *
  have hX : itemS b n s e so fb F B t = if it = -1 ∨ (decide (it = 0) ≠ fb) ∨ (it = 2 ∧ 6 ≤ F 6) ∨ (it = 4 ∧ 8 ≤ B 33) then (false, s, e, F, B, t) else endS b n it (argS b n it.toNat (F 6) (atT numsT it.toNat).toNat 0 e t) F B := by unfold itemS; rw [hitG]
  rw [hX]
  have bad : it = -1 ∨ (decide (it = 0) ≠ fb) ∨ (it = 2 ∧ 6 ≤ F 6) ∨ (it = 4 ∧ 8 ≤ B 33) → QI r l (if it = -1 ∨ (decide (it = 0) ≠ fb) ∨ (it = 2 ∧ 6 ≤ F 6) ∨ (it = 4 ∧ 8 ≤ B 33) then (false, s, e, F, B, t) else endS b n it (argS b n it.toNat (F 6) (atT numsT it.toNat).toNat 0 e t) F B) Y I C P L 0 I P L := by
    intro hbad
    rw [if_pos hbad]
    exact ⟨rfl, rfl, hs, he, hFG, hBG, htG, fun _ _ _ _ => rfl, outP.rf P _, hW, hF, hBI, ht, rfl⟩
  refine en_I (by decide +kernel) (Nat.le_of_ble_eq_true rfl) ?_
  change Wd _ _ _ _ _ _ _ _ 0 [some _, some _, some _, none, none] [] _ _ _ _
  have loop : 0 ≤ it → decide (it = 0) = fb → ¬ (it = 2 ∧ 6 ≤ F 6) → ¬ (it = 4 ∧ 8 ≤ B 33) → ∀ (k i a : Nat) (x : Int) (t1 : Nat → Int) (I1 : MI), i + k = (atT numsT it.toNat).toNat → x = (i : Int) → a ≤ n → I1 r 2 = (n : Int) → I1 r 4 = (a : Int) → I1 (r + 2) = t1 → (∀ x, x ≠ r → x ≠ r + 2 → I1 x = I x) → (∀ j, j < 3 → iR (t1 j)) → argS b n it.toNat (F 6) k i a t1 = argS b n it.toNat (F 6) (atT numsT it.toNat).toNat 0 e t → Wd G yX7_readItem cX7_readItem 5 (some .boolean) 7 (C.2.1 + 0, C.2.2 + 0) (NI C (QI r l (endS b n it (argS b n it.toNat (F 6) (atT numsT it.toNat).toNat 0 e t) F B) Y I C P L)) 66 [some (.ref r), some (.ref l), some (.int (zI (if fb then 1 else 0))), some (.int (zI it)), some (.int (zI x))] [] C I1 P L := by
    intro hit0 hfst hn2 hn4
    have hitN : ((it.toNat : Nat) : Int) = it := by omega
    have hcr : 0 ≤ atT numsT it.toNat ∧ atT numsT it.toNat ≤ 3 := nums_in ⟨it.toNat, by omega⟩
    have hokA := argS_ok b n it.toNat (F 6) (atT numsT it.toNat).toNat 0 e t
    generalize hA : argS b n it.toNat (F 6) (atT numsT it.toNat).toNat 0 e t = A at *
    intro k
    induction k with
    | zero =>
      intro i a x t1 I1 hik hx han e2 e4 et hO htr hAr
      have hA' : A = (true, 0, a, t1) := by rw [← hAr]; rfl
      rw [hA'] at hokA ⊢
      simp only [true_implies] at hokA
      have eb : I1 (r + 1) = b := by rw [hO _ (by omega) (by omega), hbG]
      have hI1 : ReadI I1 r n := ⟨e2, h150, by rw [eb]; exact hbb⟩
      have hnum : I1 (gT G 0) it.toNat = atT numsT it.toNat := by
        have := hLow.1 0 (by omega)
        rw [hO _ (by omega) (by omega)]; exact hSt.2.2.2.1 _ (by omega)
      have hSt0 := hSt.1
      have hti := tok_in b han
      have haddi := addS_in (item := it.toNat) (t := t1) (F := F) (B := B) (Y := Y) (by omega) hF hBI hY (by rw [hitN]; exact hn2) (by rw [hitN]; exact hn4) (fun j hj => hokA (fun j hj => by omega) j (by omega))
      rw [hitN] at haddi
      have eE1 : (tok b n a).2.2 = 1 → endS b n it (true, 0, a, t1) F B = (true, (tok b n a).1, (tok b n a).2.1, (addS it t1 F B).1, (addS it t1 F B).2, t1) := fun h => by
        unfold endS
        rw [if_pos rfl]
        exact if_pos h
      have eE0 : ¬ (tok b n a).2.2 = 1 → endS b n it (true, 0, a, t1) F B = (false, (tok b n a).1, (tok b n a).2.1, F, B, t1) := fun h => by
        unfold endS
        rw [if_pos rfl]
        exact if_neg h
      refine r_iload (pc := 66) dX7_readItem_66 rfl ?_
      refine r_gets (pc := 68) (zs0 G) q499 dX7_readItem_68 ?_
      refine r_iload_n (pc := 71) dX7_readItem_71 rfl ?_
      refine i_SN2ix (pc := 72) okX11_at staX11_at nwX7_71 dX7_readItem_72 (by decide) (Nat.le_of_ble_eq_true rfl) (sX11_at (n := 5) (j := it.toNat)) ?_
      rw [hnum]
      refine r_icmp_ge (pc := 75) 128 dX7_readItem_75 (by decide) (by omega) (by omega) (fun h75 => ?_) (fun h75 => ?_)
      · skip
        refine r_aload_n (pc := 128) dX7_readItem_128 rfl ?_
        refine i_V0vg (pc := 129) okX7_advance inX7_advance selX7_advance q414 dX7_readItem_129 (by assumption) rfl (by decide) (Nat.le_of_ble_eq_true rfl) (sX7_advance (n := n) (a := a)) (fun I3 P3 L3 hq3 => ?_)
        obtain ⟨f2, f3, f4, f5, f6, fO, rfl, rfl⟩ := hq3
        rw [eb] at f3 f4 f5 f6
        have hO3 : ∀ x, x ≠ r → x ≠ r + 2 → I3 x = I x := fun x hx1 hx2 => (fO x hx1).trans (hO x hx1 hx2)
        have et3 : I3 (r + 2) = t1 := by rw [fO _ (by omega), et]
        have eF3 : rdF I3 (l + 10) = F := by rw [← hFG]; exact rdF_eqr (fun x hx => hO3 x (by omega) (by omega))
        have eB3 : rdB I3 (l + 1) = B := by rw [← hBG]; exact rdB_eqr (fun x hx => hO3 x (by omega) (by omega))
        have hF3 : FI (rdF I3 (l + 10)) Y := by rw [eF3]; exact hF
        have hB3 : BI (rdB I3 (l + 1)) := by rw [eB3]; exact hBI
        have hW3 : WayL C P (l + 10) (rdF I3 (l + 10)) := by rw [eF3]; exact hW
        have hok3 : okS it (I3 (r + 2)) (rdF I3 (l + 10)) (rdB I3 (l + 1)) := by rw [et3, eF3, eB3]; exact haddi.1
        refine r_aload_n (pc := 132) dX7_readItem_132 rfl ?_
        refine r_getI (pc := 133) dX7_readItem_133 frX7_38 (by assumption) ?_
        refine r_iconst (pc := 136) dX7_readItem_136 ?_
        refine r_icmp_eq (pc := 137) 142 dX7_readItem_137 (by decide) (by omega) (by omega) (fun h137 => ?_) (fun h137 => ?_)
        · skip
          refine r_aload_n (pc := 142) dX7_readItem_142 rfl ?_
          refine r_aload_n (pc := 143) dX7_readItem_143 rfl ?_
          refine r_iload_n (pc := 144) dX7_readItem_144 rfl ?_
          refine i_V2vg (pc := 145) okX7_addTo inX7_addTo selX7_addTo q509 dX7_readItem_145 (by assumption) rfl (by decide) (Nat.le_of_ble_eq_true rfl) (sX7_addTo (Y := Y)) (fun I4 P4 L4 hq4 => ?_)
          obtain ⟨g1, g2, g3, g4, g5, rfl⟩ := hq4
          rw [et3, eF3, eB3] at g1 g2 g5
          refine r_iconst (pc := 148) dX7_readItem_148 ?_
          refine t_iret (pc := 149) dX7_readItem_149 rfl rfl ?_
          rw [eE1 (by omega)]
          refine ⟨?_, ?_, ?_, ?_, ?_, ?_, ?_, fun x h1 h2 h3 => (g3 x h3).trans (hO3 x h1 h2), g4, ?_, ?_, ?_, ?_, rfl⟩
          · rfl
          · rw [g3 r (by omega)]; exact f2.trans (e2.trans h2.symm)
          · rw [g3 r (by omega)]; exact f3
          · rw [g3 r (by omega)]; exact f4
          · exact g1
          · exact g2
          · rw [g3 (r + 2) (by omega)]; exact et3
          · exact g5
          · exact haddi.2.1
          · exact haddi.2.2
          · exact htr
        · skip
          refine r_iconst (pc := 140) dX7_readItem_140 ?_
          refine t_iret (pc := 141) dX7_readItem_141 rfl rfl ?_
          rw [eE0 (by omega)]
          refine ⟨?_, ?_, ?_, ?_, ?_, ?_, ?_, fun x h1 h2 _ => hO3 x h1 h2, outP.rf P _, ?_, ?_, ?_, ?_, rfl⟩
          · rfl
          · exact f2.trans (e2.trans h2.symm)
          · exact f3
          · exact f4
          · exact eF3
          · exact eB3
          · exact et3
          · exact hW
          · exact hF
          · exact hBI
          · exact htr
      · exfalso; omega
    | succ k ih =>
      intro i a x t1 I1 hik hx han e2 e4 et hO htr hAr
      have eb : I1 (r + 1) = b := by rw [hO _ (by omega) (by omega), hbG]
      have hI1 : ReadI I1 r n := ⟨e2, h150, by rw [eb]; exact hbb⟩
      have hnum : I1 (gT G 0) it.toNat = atT numsT it.toNat := by
        have := hLow.1 0 (by omega)
        rw [hO _ (by omega) (by omega)]; exact hSt.2.2.2.1 _ (by omega)
      have hSt0 := hSt.1
      have hti := tok_in b han
      rw [argS] at hAr
      have hi3 : i < 3 := by omega
      refine r_iload (pc := 66) dX7_readItem_66 rfl ?_
      refine r_gets (pc := 68) (zs0 G) q499 dX7_readItem_68 ?_
      refine r_iload_n (pc := 71) dX7_readItem_71 rfl ?_
      refine i_SN2ix (pc := 72) okX11_at staX11_at nwX7_71 dX7_readItem_72 (by decide) (Nat.le_of_ble_eq_true rfl) (sX11_at (n := 5) (j := it.toNat)) ?_
      rw [hnum]
      refine r_icmp_ge (pc := 75) 128 dX7_readItem_75 (by decide) (by first | omega | exact iR_b _) (by first | omega | exact iR_b _) (fun h75 => ?_) (fun h75 => ?_)
      · exfalso; omega
      · skip
        refine r_aload_n (pc := 78) dX7_readItem_78 rfl ?_
        refine i_V0vg (pc := 79) okX7_advance inX7_advance selX7_advance q414 dX7_readItem_79 (by assumption) rfl (by decide) (Nat.le_of_ble_eq_true rfl) (sX7_advance (n := n) (a := a)) (fun I3 P3 L3 hq3 => ?_)
        obtain ⟨f2, f3, f4, f5, f6, fO, rfl, rfl⟩ := hq3
        rw [eb] at f3 f4 f5 f6
        have hO3 : ∀ x, x ≠ r → x ≠ r + 2 → I3 x = I x := fun x hx1 hx2 => (fO x hx1).trans (hO x hx1 hx2)
        have et3 : I3 (r + 2) = t1 := by rw [fO _ (by omega), et]
        have eF3 : rdF I3 (l + 10) = F := by rw [← hFG]; exact rdF_eqr (fun x hx => hO3 x (by omega) (by omega))
        have eB3 : rdB I3 (l + 1) = B := by rw [← hBG]; exact rdB_eqr (fun x hx => hO3 x (by omega) (by omega))
        have e103 : I3 (l + 10) 10 = F 6 := by rw [at_10 I3 (l + 10), eF3]
        have hSt3 : StatL G C I3 := by
          obtain ⟨s0, s1, s2, s3, s4, s5⟩ := hSt
          have l0 := hLow.1 0 (by omega)
          have l1 := hLow.1 1 (by omega)
          have l2 := hLow.1 2 (by omega)
          exact ⟨s0, s1, s2, by rw [hO3 _ (by omega) (by omega)]; exact s3, by rw [hO3 _ (by omega) (by omega)]; exact s4, by rw [hO3 _ (by omega) (by omega)]; exact s5⟩
        have hfail : ¬ ((tok b n a).2.2 = 3 ∧ fitB it.toNat i (tokV b n a) (t1 0) (F 6) = true) → QI r l (endS b n it A F B) Y I C P L 0 I3 P L := by
          intro hz
          rw [if_neg hz] at hAr
          rw [← hAr]
          unfold endS
          rw [if_neg (fun h => Bool.false_ne_true h)]
          exact ⟨rfl, f2.trans (e2.trans h2.symm), f3, f4, eF3, eB3, et3, fun x h1 h2 _ => hO3 x h1 h2, outP.rf P _, hW, hF, hBI, htr, rfl⟩
        refine r_aload_n (pc := 82) dX7_readItem_82 rfl ?_
        refine r_getI (pc := 83) dX7_readItem_83 frX7_38 (by assumption) ?_
        refine r_iconst (pc := 86) dX7_readItem_86 ?_
        refine r_icmp_ne (pc := 87) 107 dX7_readItem_87 (by decide) (by first | omega | exact iR_b _) (by first | omega | exact iR_b _) (fun h87 => ?_) (fun h87 => ?_)
        · skip
          refine r_iconst (pc := 107) dX7_readItem_107 ?_
          refine t_iret (pc := 108) dX7_readItem_108 rfl rfl ?_
          first
          | exact hfail (fun hz => by omega)
          | exact hfail (fun hz => bf h104 hz.2)
        · skip
          have hso3 : (tok b n a).2.2 = 3 := by omega
          have hv := tok_num hso3
          have ev : I3 r 6 = tokV b n a := f6 hso3
          have ht0 := htr 0 (by omega)
          have et0 : I3 (r + 2) 0 = t1 0 := by rw [et3]
          refine r_aload_n (pc := 90) dX7_readItem_90 rfl ?_
          refine r_iload_n (pc := 91) dX7_readItem_91 rfl ?_
          refine r_iload (pc := 92) dX7_readItem_92 rfl ?_
          refine r_aload_n (pc := 94) dX7_readItem_94 rfl ?_
          refine r_getP (pc := 95) dX7_readItem_95 frX7_52 (by assumption) (by assumption) ?_
          refine r_getI (pc := 98) dX7_readItem_98 frX7_56 (by assumption) ?_
          rw [e103]
          refine i_V3ix (pc := 101) okX7_fits inX7_fits selX7_fits q501 dX7_readItem_101 (by assumption) rfl (by decide) (Nat.le_of_ble_eq_true rfl) (sX7_fits (item := it.toNat) (i := i)) ?_
          rw [ev, et0]
          refine r_if_ne (pc := 104) 109 dX7_readItem_104 (by decide) (by first | omega | exact iR_b _) (fun h104 => ?_) (fun h104 => ?_)
          · skip
            refine r_aload_n (pc := 109) dX7_readItem_109 rfl ?_
            refine r_getA (pc := 110) dX7_readItem_110 frX7_15 (by assumption) (by assumption) ?_
            refine r_iload (pc := 113) dX7_readItem_113 rfl ?_
            refine r_aload_n (pc := 115) dX7_readItem_115 rfl ?_
            refine r_getI (pc := 116) dX7_readItem_116 frX7_79 (by assumption) ?_
            refine i_SN3vx (pc := 119) okX11_put staX11_put nwX7_22 dX7_readItem_119 (by decide) (Nat.le_of_ble_eq_true rfl) (sX11_put (n := 3) (j := i)) ?_
            refine r_iinc (pc := 122) dX7_readItem_122 rfl ?_
            refine r_goto (pc := 125) 66 dX7_readItem_125 (by decide) ?_
            rw [if_pos ⟨hso3, bt h104⟩] at hAr
            refine ih (i + 1) (tok b n a).2.1 _ _ _ (by omega) (by omega) (by omega) ?_ ?_ ?_ (fun x h1 h2 => ?_) (fun j hj => ?_) hAr
            · rw [u2_a _ _ _ _ (by omega), f2, e2]
            · rw [u2_a _ _ _ _ (by omega), f4]
            · funext j
              rw [← et3, ← ev]; simp only [u2_app, up_app, eq_self, true_and]
            · funext j; rw [u2_a _ _ _ _ h2]; exact congrFun (hO3 x h1 h2) j
            · rw [up_app]; split
              · omega
              · exact htr j hj
          · skip
            refine r_iconst (pc := 107) dX7_readItem_107 ?_
            refine t_iret (pc := 108) dX7_readItem_108 rfl rfl ?_
            first
            | exact hfail (fun hz => by omega)
            | exact hfail (fun hz => bf h104 hz.2)
  refine r_aload_n (pc := 0) dX7_readItem_0 rfl ?_
  refine i_V0ix (pc := 1) okX7_itemTold inX7_itemTold selX7_itemTold q438 dX7_readItem_1 (by assumption) rfl (by decide) (Nat.le_of_ble_eq_true rfl) (sX7_itemTold (n := n) (s := s) (e := e)) ?_
  rw [hbG, hitG]
  refine r_istore_n (pc := 4) dX7_readItem_4 (by decide) ?_
  refine r_iload_n (pc := 5) dX7_readItem_5 rfl ?_
  refine r_iconst (pc := 6) dX7_readItem_6 ?_
  refine r_icmp_eq (pc := 7) 23 dX7_readItem_7 (by decide) (by first | omega | exact iR_b _) (by first | omega | exact iR_b _) (fun h7 => ?_) (fun h7 => ?_)
  · skip
    refine r_iconst (pc := 23) dX7_readItem_23 ?_
    refine t_iret (pc := 24) dX7_readItem_24 rfl rfl ?_
    first
    | exact bad (Or.inl (by omega))
    | exact bad (Or.inr (Or.inl (fb1n h11 h20)))
    | exact bad (Or.inr (Or.inl (fb0n h11 h20)))
    | exact bad (Or.inr (Or.inr (Or.inl ⟨by omega, by omega⟩)))
    | exact bad (Or.inr (Or.inr (Or.inr ⟨by omega, by omega⟩)))
  · skip
    refine r_iload_n (pc := 10) dX7_readItem_10 rfl ?_
    refine r_if_ne (pc := 11) 18 dX7_readItem_11 (by decide) (by first | omega | exact iR_b _) (fun h11 => ?_) (fun h11 => ?_)
    · skip
      refine r_iconst (pc := 18) dX7_readItem_18 ?_
      refine r_iload_n (pc := 19) dX7_readItem_19 rfl ?_
      refine r_icmp_eq (pc := 20) 25 dX7_readItem_20 (by decide) (by first | omega | exact iR_b _) (by first | omega | exact iR_b _) (fun h20 => ?_) (fun h20 => ?_)
      · skip
        refine r_iload_n (pc := 25) dX7_readItem_25 rfl ?_
        refine r_iconst (pc := 26) dX7_readItem_26 ?_
        refine r_icmp_ne (pc := 27) 44 dX7_readItem_27 (by decide) (by first | omega | exact iR_b _) (by first | omega | exact iR_b _) (fun h27 => ?_) (fun h27 => ?_)
        · skip
          refine r_iload_n (pc := 44) dX7_readItem_44 rfl ?_
          refine r_iconst (pc := 45) dX7_readItem_45 ?_
          refine r_icmp_ne (pc := 46) 63 dX7_readItem_46 (by decide) (by first | omega | exact iR_b _) (by first | omega | exact iR_b _) (fun h46 => ?_) (fun h46 => ?_)
          · skip
            refine r_iconst (pc := 63) dX7_readItem_63 ?_
            refine r_istore (pc := 64) dX7_readItem_64 (by decide) ?_
            have hd : decide (it = 0) = fb := by first | exact fb1 h11 h20 | exact fb0 h11 h20
            have n2 : ¬ (it = 2 ∧ 6 ≤ F 6) := by omega
            have n4 : ¬ (it = 4 ∧ 8 ≤ B 33) := by omega
            rw [if_neg (fun hz => by
              rcases hz with hz | hz | hz | hz
              · omega
              · exact hz hd
              · exact n2 hz
              · exact n4 hz)]
            exact loop (by omega) hd n2 n4 _ 0 e _ t I (by omega) rfl (by omega) h2 he htG (fun _ _ _ => rfl) ht rfl
          · skip
            refine r_aload_n (pc := 49) dX7_readItem_49 rfl ?_
            refine r_getP (pc := 50) dX7_readItem_50 frX7_59 (by assumption) (by assumption) ?_
            refine r_getI (pc := 53) dX7_readItem_53 frX7_63 (by assumption) ?_
            refine r_bipush (pc := 56) dX7_readItem_56 (by decide) ?_
            rw [e33]
            refine r_icmp_lt (pc := 58) 63 dX7_readItem_58 (by decide) (by first | omega | exact iR_b _) (by first | omega | exact iR_b _) (fun h58 => ?_) (fun h58 => ?_)
            · skip
              refine r_iconst (pc := 63) dX7_readItem_63 ?_
              refine r_istore (pc := 64) dX7_readItem_64 (by decide) ?_
              have hd : decide (it = 0) = fb := by first | exact fb1 h11 h20 | exact fb0 h11 h20
              have n2 : ¬ (it = 2 ∧ 6 ≤ F 6) := by omega
              have n4 : ¬ (it = 4 ∧ 8 ≤ B 33) := by omega
              rw [if_neg (fun hz => by
                rcases hz with hz | hz | hz | hz
                · omega
                · exact hz hd
                · exact n2 hz
                · exact n4 hz)]
              exact loop (by omega) hd n2 n4 _ 0 e _ t I (by omega) rfl (by omega) h2 he htG (fun _ _ _ => rfl) ht rfl
            · skip
              refine r_iconst (pc := 61) dX7_readItem_61 ?_
              refine t_iret (pc := 62) dX7_readItem_62 rfl rfl ?_
              first
              | exact bad (Or.inl (by omega))
              | exact bad (Or.inr (Or.inl (fb1n h11 h20)))
              | exact bad (Or.inr (Or.inl (fb0n h11 h20)))
              | exact bad (Or.inr (Or.inr (Or.inl ⟨by omega, by omega⟩)))
              | exact bad (Or.inr (Or.inr (Or.inr ⟨by omega, by omega⟩)))
        · skip
          refine r_aload_n (pc := 30) dX7_readItem_30 rfl ?_
          refine r_getP (pc := 31) dX7_readItem_31 frX7_52 (by assumption) (by assumption) ?_
          refine r_getI (pc := 34) dX7_readItem_34 frX7_56 (by assumption) ?_
          refine r_bipush (pc := 37) dX7_readItem_37 (by decide) ?_
          rw [e10]
          refine r_icmp_lt (pc := 39) 44 dX7_readItem_39 (by decide) (by first | omega | exact iR_b _) (by first | omega | exact iR_b _) (fun h39 => ?_) (fun h39 => ?_)
          · skip
            refine r_iload_n (pc := 44) dX7_readItem_44 rfl ?_
            refine r_iconst (pc := 45) dX7_readItem_45 ?_
            refine r_icmp_ne (pc := 46) 63 dX7_readItem_46 (by decide) (by first | omega | exact iR_b _) (by first | omega | exact iR_b _) (fun h46 => ?_) (fun h46 => ?_)
            · skip
              refine r_iconst (pc := 63) dX7_readItem_63 ?_
              refine r_istore (pc := 64) dX7_readItem_64 (by decide) ?_
              have hd : decide (it = 0) = fb := by first | exact fb1 h11 h20 | exact fb0 h11 h20
              have n2 : ¬ (it = 2 ∧ 6 ≤ F 6) := by omega
              have n4 : ¬ (it = 4 ∧ 8 ≤ B 33) := by omega
              rw [if_neg (fun hz => by
                rcases hz with hz | hz | hz | hz
                · omega
                · exact hz hd
                · exact n2 hz
                · exact n4 hz)]
              exact loop (by omega) hd n2 n4 _ 0 e _ t I (by omega) rfl (by omega) h2 he htG (fun _ _ _ => rfl) ht rfl
            · skip
              refine r_aload_n (pc := 49) dX7_readItem_49 rfl ?_
              refine r_getP (pc := 50) dX7_readItem_50 frX7_59 (by assumption) (by assumption) ?_
              refine r_getI (pc := 53) dX7_readItem_53 frX7_63 (by assumption) ?_
              refine r_bipush (pc := 56) dX7_readItem_56 (by decide) ?_
              rw [e33]
              refine r_icmp_lt (pc := 58) 63 dX7_readItem_58 (by decide) (by first | omega | exact iR_b _) (by first | omega | exact iR_b _) (fun h58 => ?_) (fun h58 => ?_)
              · skip
                refine r_iconst (pc := 63) dX7_readItem_63 ?_
                refine r_istore (pc := 64) dX7_readItem_64 (by decide) ?_
                have hd : decide (it = 0) = fb := by first | exact fb1 h11 h20 | exact fb0 h11 h20
                have n2 : ¬ (it = 2 ∧ 6 ≤ F 6) := by omega
                have n4 : ¬ (it = 4 ∧ 8 ≤ B 33) := by omega
                rw [if_neg (fun hz => by
                  rcases hz with hz | hz | hz | hz
                  · omega
                  · exact hz hd
                  · exact n2 hz
                  · exact n4 hz)]
                exact loop (by omega) hd n2 n4 _ 0 e _ t I (by omega) rfl (by omega) h2 he htG (fun _ _ _ => rfl) ht rfl
              · skip
                refine r_iconst (pc := 61) dX7_readItem_61 ?_
                refine t_iret (pc := 62) dX7_readItem_62 rfl rfl ?_
                first
                | exact bad (Or.inl (by omega))
                | exact bad (Or.inr (Or.inl (fb1n h11 h20)))
                | exact bad (Or.inr (Or.inl (fb0n h11 h20)))
                | exact bad (Or.inr (Or.inr (Or.inl ⟨by omega, by omega⟩)))
                | exact bad (Or.inr (Or.inr (Or.inr ⟨by omega, by omega⟩)))
          · skip
            refine r_iconst (pc := 42) dX7_readItem_42 ?_
            refine t_iret (pc := 43) dX7_readItem_43 rfl rfl ?_
            first
            | exact bad (Or.inl (by omega))
            | exact bad (Or.inr (Or.inl (fb1n h11 h20)))
            | exact bad (Or.inr (Or.inl (fb0n h11 h20)))
            | exact bad (Or.inr (Or.inr (Or.inl ⟨by omega, by omega⟩)))
            | exact bad (Or.inr (Or.inr (Or.inr ⟨by omega, by omega⟩)))
      · skip
        refine r_iconst (pc := 23) dX7_readItem_23 ?_
        refine t_iret (pc := 24) dX7_readItem_24 rfl rfl ?_
        first
        | exact bad (Or.inl (by omega))
        | exact bad (Or.inr (Or.inl (fb1n h11 h20)))
        | exact bad (Or.inr (Or.inl (fb0n h11 h20)))
        | exact bad (Or.inr (Or.inr (Or.inl ⟨by omega, by omega⟩)))
        | exact bad (Or.inr (Or.inr (Or.inr ⟨by omega, by omega⟩)))
    · skip
      refine r_iconst (pc := 14) dX7_readItem_14 ?_
      refine r_goto (pc := 15) 19 dX7_readItem_15 (by decide) ?_
      refine r_iload_n (pc := 19) dX7_readItem_19 rfl ?_
      refine r_icmp_eq (pc := 20) 25 dX7_readItem_20 (by decide) (by first | omega | exact iR_b _) (by first | omega | exact iR_b _) (fun h20 => ?_) (fun h20 => ?_)
      · skip
        refine r_iload_n (pc := 25) dX7_readItem_25 rfl ?_
        refine r_iconst (pc := 26) dX7_readItem_26 ?_
        refine r_icmp_ne (pc := 27) 44 dX7_readItem_27 (by decide) (by first | omega | exact iR_b _) (by first | omega | exact iR_b _) (fun h27 => ?_) (fun h27 => ?_)
        · skip
          refine r_iload_n (pc := 44) dX7_readItem_44 rfl ?_
          refine r_iconst (pc := 45) dX7_readItem_45 ?_
          refine r_icmp_ne (pc := 46) 63 dX7_readItem_46 (by decide) (by first | omega | exact iR_b _) (by first | omega | exact iR_b _) (fun h46 => ?_) (fun h46 => ?_)
          · skip
            refine r_iconst (pc := 63) dX7_readItem_63 ?_
            refine r_istore (pc := 64) dX7_readItem_64 (by decide) ?_
            have hd : decide (it = 0) = fb := by first | exact fb1 h11 h20 | exact fb0 h11 h20
            have n2 : ¬ (it = 2 ∧ 6 ≤ F 6) := by omega
            have n4 : ¬ (it = 4 ∧ 8 ≤ B 33) := by omega
            rw [if_neg (fun hz => by
              rcases hz with hz | hz | hz | hz
              · omega
              · exact hz hd
              · exact n2 hz
              · exact n4 hz)]
            exact loop (by omega) hd n2 n4 _ 0 e _ t I (by omega) rfl (by omega) h2 he htG (fun _ _ _ => rfl) ht rfl
          · skip
            refine r_aload_n (pc := 49) dX7_readItem_49 rfl ?_
            refine r_getP (pc := 50) dX7_readItem_50 frX7_59 (by assumption) (by assumption) ?_
            refine r_getI (pc := 53) dX7_readItem_53 frX7_63 (by assumption) ?_
            refine r_bipush (pc := 56) dX7_readItem_56 (by decide) ?_
            rw [e33]
            refine r_icmp_lt (pc := 58) 63 dX7_readItem_58 (by decide) (by first | omega | exact iR_b _) (by first | omega | exact iR_b _) (fun h58 => ?_) (fun h58 => ?_)
            · skip
              refine r_iconst (pc := 63) dX7_readItem_63 ?_
              refine r_istore (pc := 64) dX7_readItem_64 (by decide) ?_
              have hd : decide (it = 0) = fb := by first | exact fb1 h11 h20 | exact fb0 h11 h20
              have n2 : ¬ (it = 2 ∧ 6 ≤ F 6) := by omega
              have n4 : ¬ (it = 4 ∧ 8 ≤ B 33) := by omega
              rw [if_neg (fun hz => by
                rcases hz with hz | hz | hz | hz
                · omega
                · exact hz hd
                · exact n2 hz
                · exact n4 hz)]
              exact loop (by omega) hd n2 n4 _ 0 e _ t I (by omega) rfl (by omega) h2 he htG (fun _ _ _ => rfl) ht rfl
            · skip
              refine r_iconst (pc := 61) dX7_readItem_61 ?_
              refine t_iret (pc := 62) dX7_readItem_62 rfl rfl ?_
              first
              | exact bad (Or.inl (by omega))
              | exact bad (Or.inr (Or.inl (fb1n h11 h20)))
              | exact bad (Or.inr (Or.inl (fb0n h11 h20)))
              | exact bad (Or.inr (Or.inr (Or.inl ⟨by omega, by omega⟩)))
              | exact bad (Or.inr (Or.inr (Or.inr ⟨by omega, by omega⟩)))
        · skip
          refine r_aload_n (pc := 30) dX7_readItem_30 rfl ?_
          refine r_getP (pc := 31) dX7_readItem_31 frX7_52 (by assumption) (by assumption) ?_
          refine r_getI (pc := 34) dX7_readItem_34 frX7_56 (by assumption) ?_
          refine r_bipush (pc := 37) dX7_readItem_37 (by decide) ?_
          rw [e10]
          refine r_icmp_lt (pc := 39) 44 dX7_readItem_39 (by decide) (by first | omega | exact iR_b _) (by first | omega | exact iR_b _) (fun h39 => ?_) (fun h39 => ?_)
          · skip
            refine r_iload_n (pc := 44) dX7_readItem_44 rfl ?_
            refine r_iconst (pc := 45) dX7_readItem_45 ?_
            refine r_icmp_ne (pc := 46) 63 dX7_readItem_46 (by decide) (by first | omega | exact iR_b _) (by first | omega | exact iR_b _) (fun h46 => ?_) (fun h46 => ?_)
            · skip
              refine r_iconst (pc := 63) dX7_readItem_63 ?_
              refine r_istore (pc := 64) dX7_readItem_64 (by decide) ?_
              have hd : decide (it = 0) = fb := by first | exact fb1 h11 h20 | exact fb0 h11 h20
              have n2 : ¬ (it = 2 ∧ 6 ≤ F 6) := by omega
              have n4 : ¬ (it = 4 ∧ 8 ≤ B 33) := by omega
              rw [if_neg (fun hz => by
                rcases hz with hz | hz | hz | hz
                · omega
                · exact hz hd
                · exact n2 hz
                · exact n4 hz)]
              exact loop (by omega) hd n2 n4 _ 0 e _ t I (by omega) rfl (by omega) h2 he htG (fun _ _ _ => rfl) ht rfl
            · skip
              refine r_aload_n (pc := 49) dX7_readItem_49 rfl ?_
              refine r_getP (pc := 50) dX7_readItem_50 frX7_59 (by assumption) (by assumption) ?_
              refine r_getI (pc := 53) dX7_readItem_53 frX7_63 (by assumption) ?_
              refine r_bipush (pc := 56) dX7_readItem_56 (by decide) ?_
              rw [e33]
              refine r_icmp_lt (pc := 58) 63 dX7_readItem_58 (by decide) (by first | omega | exact iR_b _) (by first | omega | exact iR_b _) (fun h58 => ?_) (fun h58 => ?_)
              · skip
                refine r_iconst (pc := 63) dX7_readItem_63 ?_
                refine r_istore (pc := 64) dX7_readItem_64 (by decide) ?_
                have hd : decide (it = 0) = fb := by first | exact fb1 h11 h20 | exact fb0 h11 h20
                have n2 : ¬ (it = 2 ∧ 6 ≤ F 6) := by omega
                have n4 : ¬ (it = 4 ∧ 8 ≤ B 33) := by omega
                rw [if_neg (fun hz => by
                  rcases hz with hz | hz | hz | hz
                  · omega
                  · exact hz hd
                  · exact n2 hz
                  · exact n4 hz)]
                exact loop (by omega) hd n2 n4 _ 0 e _ t I (by omega) rfl (by omega) h2 he htG (fun _ _ _ => rfl) ht rfl
              · skip
                refine r_iconst (pc := 61) dX7_readItem_61 ?_
                refine t_iret (pc := 62) dX7_readItem_62 rfl rfl ?_
                first
                | exact bad (Or.inl (by omega))
                | exact bad (Or.inr (Or.inl (fb1n h11 h20)))
                | exact bad (Or.inr (Or.inl (fb0n h11 h20)))
                | exact bad (Or.inr (Or.inr (Or.inl ⟨by omega, by omega⟩)))
                | exact bad (Or.inr (Or.inr (Or.inr ⟨by omega, by omega⟩)))
          · skip
            refine r_iconst (pc := 42) dX7_readItem_42 ?_
            refine t_iret (pc := 43) dX7_readItem_43 rfl rfl ?_
            first
            | exact bad (Or.inl (by omega))
            | exact bad (Or.inr (Or.inl (fb1n h11 h20)))
            | exact bad (Or.inr (Or.inl (fb0n h11 h20)))
            | exact bad (Or.inr (Or.inr (Or.inl ⟨by omega, by omega⟩)))
            | exact bad (Or.inr (Or.inr (Or.inr ⟨by omega, by omega⟩)))
      · skip
        refine r_iconst (pc := 23) dX7_readItem_23 ?_
        refine t_iret (pc := 24) dX7_readItem_24 rfl rfl ?_
        first
        | exact bad (Or.inl (by omega))
        | exact bad (Or.inr (Or.inl (fb1n h11 h20)))
        | exact bad (Or.inr (Or.inl (fb0n h11 h20)))
        | exact bad (Or.inr (Or.inr (Or.inl ⟨by omega, by omega⟩)))
        | exact bad (Or.inr (Or.inr (Or.inr ⟨by omega, by omega⟩)))

