theorem sumS_in {net : Nat → Int} (h : ∀ f, -320000 ≤ net f ∧ net f ≤ 320000) (s : Nat) : -1920000 ≤ sumS net s ∧ sumS net s ≤ 1920000 := by
  have h0 := h 0
  have h1 := h 1
  have h2 := h 2
  have h3 := h 3
  have h4 := h 4
  have h5 := h 5
  unfold sumS
  generalize s.testBit 0 = b0
  generalize s.testBit 1 = b1
  generalize s.testBit 2 = b2
  generalize s.testBit 3 = b3
  generalize s.testBit 4 = b4
  generalize s.testBit 5 = b5
  cases b0 <;> cases b1 <;> cases b2 <;> cases b3 <;> cases b4 <;> cases b5 <;> simp only [if_true, Bool.false_eq_true, if_false] <;> omega
theorem mgb_congr {tb tb2 : Nat → Int} {s : Nat} (h : ∀ j, j < s → tb j = tb2 j) (hs : 1 ≤ s ∧ s < 64) : ∀ f, f ≤ 6 → mgb tb s f = mgb tb2 s f := by
  intro f
  induction f with
  | zero => intro _; rfl
  | succ f ih =>
    intro hf
    unfold mgb
    rw [ih (by omega)]
    split
    · next hb => rw [h _ ((bit_tab ⟨s, hs.2⟩ ⟨f, by omega⟩ hs.1).2.2.2 hb)]
    · rfl
theorem tab0 (net : Nat → Int) (z : Nat) : ∀ s, tab net z s 0 = 0 := by
  intro s
  induction s with
  | zero => rfl
  | succ s ih => unfold tab; rw [up_n _ _ (by omega)]; exact ih
def netF (B : Nat → Int) (w : Int) (f : Nat) : Int := balB B w (f : Int) (B 33).toNat
def awayF (F : Nat → Int) : Int := F 0 - 1 - F 1 % F 0
def payF (F B : Nat → Int) : Int := (sizeF F : Int) - tab (netF B (awayF F)) (sizeF F) (2 ^ sizeF F - 1) (2 ^ sizeF F - 1)
theorem sX10_fewestPayments {G : WG} {C : CF} {I : MI} {P : MP} {L : ML} {t l : Nat} {Y : Int} (ht : TrialsL G C P t := by assumption) (hl : LumpL G C P l := by assumption) (hI : LI (rdL I l) Y := by assumption) (hlt : l + 80 ≤ t ∨ t + 96 ≤ l := by omega) (hY : Y ≤ 990000 := by omega) (hs0 : I (t + 4) 0 = 0 := by assumption) (hg0 : I (t + 5) 0 = 0 := by assumption) : SX10_fewestPayments G [.ref t, .ref l] C I P L (NI C (fun r I1 P1 L1 => r = payF (rdF I (l + 10)) (rdB I (l + 1)) ∧ (∀ x, x ≠ t + 4 → x ≠ t + 5 → I1 x = I x) ∧ I1 (t + 4) 0 = 0 ∧ I1 (t + 5) 0 = 0 ∧ P = P1 ∧ L = L1)) := by
  obtain ⟨h0, hK, hK1, hK2, hK3, hK4, hK5, hP0, hP1, hP2, hP3, hP4, hP5, hf, hp8⟩ := id ht
  obtain ⟨x0, xK, xK9, xP0, xP1, xP2, xb, xf, xp⟩ := id hl
  have hFI : FI (rdF I (l + 10)) Y := hI.1
  have hBI : BI (rdB I (l + 1)) := hI.2.1
  have hKf := xf.2.1
  have hKb := xb.2.1
  obtain ⟨hs6, hsz⟩ := sizeF_le hFI
  obtain ⟨hall, h64⟩ := all_lt hs6
  have h2k : 1 ≤ 2 ^ sizeF (rdF I (l + 10)) := Nat.one_le_two_pow
  have hspan : 2 ≤ rdF I (l + 10) 0 ∧ rdF I (l + 10) 0 ≤ 70 := hFI.1
  have hyr : 0 ≤ rdF I (l + 10) 1 ∧ rdF I (l + 10) 1 ≤ Y := hFI.2.1
  have hm1 : 0 ≤ rdF I (l + 10) 1 % rdF I (l + 10) 0 ∧ rdF I (l + 10) 1 % rdF I (l + 10) 0 < rdF I (l + 10) 0 := ⟨Int.emod_nonneg _ (by omega), Int.emod_lt_of_pos _ (by omega)⟩
  have hw : 0 ≤ awayF (rdF I (l + 10)) ∧ awayF (rdF I (l + 10)) ≤ 69 := by unfold awayF; omega
  have hnet : ∀ f, -320000 ≤ netF (rdB I (l + 1)) (awayF (rdF I (l + 10))) f ∧ netF (rdB I (l + 1)) (awayF (rdF I (l + 10))) f ≤ 320000 := by
    intro f
    have h1 := hBI.2.1
    have h2 := balB_in hBI hw (f : Int) (rdB I (l + 1) 33).toNat (by omega)
    unfold netF
    omega
  have e10 : I (l + 10) 10 = (sizeF (rdF I (l + 10)) : Int) := by rw [at_10 I (l + 10), hsz]
  have hpay : payF (rdF I (l + 10)) (rdB I (l + 1)) = (sizeF (rdF I (l + 10)) : Int) - tab (netF (rdB I (l + 1)) (awayF (rdF I (l + 10)))) (sizeF (rdF I (l + 10))) (2 ^ sizeF (rdF I (l + 10)) - 1) (2 ^ sizeF (rdF I (l + 10)) - 1) := rfl
  rw [hpay]
  generalize hA : 2 ^ sizeF (rdF I (l + 10)) = A at *
  have hnf : ∀ c : Nat, balB (rdB I (l + 1)) (awayF (rdF I (l + 10))) (c : Int) (rdB I (l + 1) 33).toNat = netF (rdB I (l + 1)) (awayF (rdF I (l + 10))) c := fun c => rfl
  generalize hN : netF (rdB I (l + 1)) (awayF (rdF I (l + 10))) = net at *
  generalize hz : sizeF (rdF I (l + 10)) = z at *
  refine en_I (by decide +kernel) (Nat.le_of_ble_eq_true rfl) ?_
  change Wd _ _ _ _ _ _ _ _ 0 [some _, some _, none, none, none, none, none] [] _ _ _ _
  have loop : ∀ (d s : Nat) (i : Int) (x : Option Value) (I1 : MI), s + d = A → 1 ≤ s → i = (s : Int) → (∀ x, x ≠ t + 4 → x ≠ t + 5 → I1 x = I x) → (∀ j, j < s → I1 (t + 4) j = sumS net j) → (∀ j, j < s → I1 (t + 5) j = tab net z (s - 1) j) → Wd G yX10_fewestPayments cX10_fewestPayments 7 (some .int) 2 (C.2.1 + 0, C.2.2 + 0) (NI C (fun r I1 P1 L1 => r = (z : Int) - tab net z (A - 1) (A - 1) ∧ (∀ x, x ≠ t + 4 → x ≠ t + 5 → I1 x = I x) ∧ I1 (t + 4) 0 = 0 ∧ I1 (t + 5) 0 = 0 ∧ P = P1 ∧ L = L1)) 26 [some (.ref t), some (.ref l), some (.int (zI (z : Int))), some (.int (zI (awayF (rdF I (l + 10))))), some (.int (zI ((A - 1 : Nat) : Int))), some (.int (zI i)), x] [] C I1 P L := by
    intro d
    induction d using Nat.strongRecOn with
    | _ d ih =>
      intro s i x I1 hd h1 hi hO hS hT
      have eB : rdB I1 (l + 1) = rdB I (l + 1) := by
        funext k
        simp only [rdB_def]
        rw [hO (l + 1) (by omega) (by omega), hO (l + 1 + 7) (by omega) (by omega), hO (l + 1 + 1 + (k - 34) % 3) (by omega) (by omega), hO (l + 1 + 4 + (k - 60) % 3) (by omega) (by omega)]
      have hBI1 : BI (rdB I1 (l + 1)) := by rw [eB]; exact hBI
      have hc5 := ctz_le s
      have hsi := sumS_in hnet s
      refine r_iload (pc := 26) dX10_fewestPayments_26 rfl ?_
      refine r_iload (pc := 28) dX10_fewestPayments_28 rfl ?_
      refine r_icmp_gt (pc := 30) 114 dX10_fewestPayments_30 (by decide) (by omega) (by omega) (fun h30 => ?_) (fun h30 => ?_)
      · skip
        have hsA : s = A := by omega
        have hTA := hT (A - 1) (by omega)
        rw [hsA] at hTA
        refine r_iload_n (pc := 114) dX10_fewestPayments_114 rfl ?_
        refine r_aload_n (pc := 115) dX10_fewestPayments_115 rfl ?_
        refine r_getA (pc := 116) dX10_fewestPayments_116 frX10_27 (by assumption) (by assumption) ?_
        refine r_iload (pc := 119) dX10_fewestPayments_119 rfl ?_
        refine i_SN2ix (pc := 121) okX11_at staX11_at nwX10_45 dX10_fewestPayments_121 (by decide) (Nat.le_of_ble_eq_true rfl) (sX11_at (n := 64) (j := A - 1)) ?_
        refine r_isub (pc := 124) dX10_fewestPayments_124 ?_
        refine t_iret (pc := 125) dX10_fewestPayments_125 rfl rfl ?_
        exact ⟨by rw [hTA], hO, by rw [hS 0 (by omega)]; simp [sumS], by rw [hT 0 (by omega)]; exact tab0 _ _ _, rfl, rfl⟩
      · skip
        have hlow := sumS_low net h1 (by omega : s < 64)
        have hband : b_and i (i - 1) = ((s &&& (s - 1) : Nat) : Int) := by rw [hi, show (s : Int) - 1 = ((s - 1 : Nat) : Int) by omega]; exact b_andN (by omega)
        have hblt := (bit_tab ⟨s, by omega⟩ ⟨0, by decide⟩ h1).2.2.1
        simp only at hblt
        have hS1 := hS _ hblt
        generalize hJ : s &&& (s - 1) = J at *
        have hin := tab_in net hs6 (s - 1) (by omega)
        have hcon := mgb_congr hT ⟨h1, by omega⟩ z hs6
        have hmb := mgb_in (tb := I1 (t + 5)) (s := s) (b := s) (fun j hj => by rw [hT j hj]; have := hin j; omega) ⟨h1, by omega⟩ z hs6
        refine r_iload (pc := 33) dX10_fewestPayments_33 rfl ?_
        refine i_S1ix (pc := 35) okJ6_numberOfTrailingZeros_0f7a4 staJ6_numberOfTrailingZeros_0f7a4 q640 dX10_fewestPayments_35 (by decide) (Nat.le_of_ble_eq_true rfl) (sCtz (s := s)) ?_
        refine r_istore (pc := 38) dX10_fewestPayments_38 (by decide) ?_
        refine r_aload_n (pc := 40) dX10_fewestPayments_40 rfl ?_
        refine r_getA (pc := 41) dX10_fewestPayments_41 frX10_24 (by assumption) (by assumption) ?_
        refine r_iload (pc := 44) dX10_fewestPayments_44 rfl ?_
        refine r_aload_n (pc := 46) dX10_fewestPayments_46 rfl ?_
        refine r_getA (pc := 47) dX10_fewestPayments_47 frX10_24 (by assumption) (by assumption) ?_
        refine r_iload (pc := 50) dX10_fewestPayments_50 rfl ?_
        refine r_iload (pc := 52) dX10_fewestPayments_52 rfl ?_
        refine r_iconst (pc := 54) dX10_fewestPayments_54 ?_
        refine r_isub (pc := 55) dX10_fewestPayments_55 ?_
        refine r_iand (pc := 56) dX10_fewestPayments_56 ?_
        rw [hband]
        refine i_SN2ix (pc := 57) okX11_at staX11_at nwX10_45 dX10_fewestPayments_57 (by decide) (Nat.le_of_ble_eq_true rfl) (sX11_at (n := 64) (j := J)) ?_
        refine r_aload_n (pc := 60) dX10_fewestPayments_60 rfl ?_
        refine r_getP (pc := 61) dX10_fewestPayments_61 frX10_126 (by assumption) (by assumption) ?_
        refine r_iload (pc := 64) dX10_fewestPayments_64 rfl ?_
        refine r_iload_n (pc := 66) dX10_fewestPayments_66 rfl ?_
        refine i_V2ix (pc := 67) okX0_balance inX0_balance selX0_balance q644 dX10_fewestPayments_67 (by assumption) rfl (by decide) (Nat.le_of_ble_eq_true rfl) (sX0_balance) ?_
        rw [hS1, eB, hnf]
        refine r_iadd (pc := 70) dX10_fewestPayments_70 ?_
        rw [← hlow]
        have hb5 : ∀ j, j < s → 0 ≤ (u2 I1 (t + 4) s (sumS net s)) (t + 5) j ∧ (u2 I1 (t + 4) s (sumS net s)) (t + 5) j ≤ (s : Int) := fun j hj => by
          rw [u2_a _ _ _ _ (by omega), hT j hj]
          have := hin j
          omega
        have hm5 : mgb ((u2 I1 (t + 4) s (sumS net s)) (t + 5)) s z = mgb (I1 (t + 5)) s z := mgb_congr (fun j hj => u2_a _ _ _ _ (by omega)) ⟨h1, by omega⟩ z hs6
        refine i_SN3vx (pc := 71) okX11_put staX11_put nwX10_67 dX10_fewestPayments_71 (by decide) (Nat.le_of_ble_eq_true rfl) (sX11_put (n := 64) (j := s)) ?_
        refine r_aload_n (pc := 74) dX10_fewestPayments_74 rfl ?_
        refine r_getA (pc := 75) dX10_fewestPayments_75 frX10_27 (by assumption) (by assumption) ?_
        refine r_iload (pc := 78) dX10_fewestPayments_78 rfl ?_
        refine r_aload_n (pc := 80) dX10_fewestPayments_80 rfl ?_
        refine r_iload (pc := 81) dX10_fewestPayments_81 rfl ?_
        refine r_iload_n (pc := 83) dX10_fewestPayments_83 rfl ?_
        refine i_V2ix (pc := 84) okX10_mostGroupsBelow inX10_mostGroupsBelow selX10_mostGroupsBelow q645 dX10_fewestPayments_84 (by assumption) rfl (by decide) (Nat.le_of_ble_eq_true rfl) (sX10_mostGroupsBelow (s := s) (z := z)) ?_
        rw [hm5]
        refine r_aload_n (pc := 87) dX10_fewestPayments_87 rfl ?_
        refine r_getA (pc := 88) dX10_fewestPayments_88 frX10_24 (by assumption) (by assumption) ?_
        refine r_iload (pc := 91) dX10_fewestPayments_91 rfl ?_
        refine i_SN2ix (pc := 93) okX11_at staX11_at nwX10_45 dX10_fewestPayments_93 (by decide) (Nat.le_of_ble_eq_true rfl) (sX11_at (n := 64) (j := s)) ?_
        rw [u2_s]
        refine r_if_ne (pc := 96) 103 dX10_fewestPayments_96 (by decide) (by omega) (fun h96 => ?_) (fun h96 => ?_)
        · skip
          refine r_iconst (pc := 103) dX10_fewestPayments_103 ?_
          refine r_iadd (pc := 104) dX10_fewestPayments_104 ?_
          refine i_SN3vx (pc := 105) okX11_put staX11_put nwX10_67 dX10_fewestPayments_105 (by decide) (Nat.le_of_ble_eq_true rfl) (sX11_put (n := 64) (j := s)) ?_
          refine r_iinc (pc := 108) dX10_fewestPayments_108 rfl ?_
          refine r_goto (pc := 111) 26 dX10_fewestPayments_111 (by decide) ?_
          refine ih (d - 1) (by omega) (s + 1) _ _ _ (by omega) (by omega) (by omega) (fun x h3 h4 => ?_) (fun j hj => ?_) (fun j hj => ?_)
          · funext k; rw [u2_a _ _ _ _ h4, u2_a _ _ _ _ h3]; exact congrFun (hO x h3 h4) k
          · rw [u2_a _ _ _ _ (by omega)]
            by_cases hjs : j = s
            · subst hjs; rw [u2_s]
            · rw [u2_k _ _ _ _ (by omega)]; exact hS j (by omega)
          · rw [show s + 1 - 1 = s - 1 + 1 by omega, tab, show s - 1 + 1 = s by omega, ← hcon]
            by_cases hjs : j = s
            · subst hjs
              rw [u2_s, up_s]
              first
                | rw [if_pos (by omega)]
                | rw [if_neg (by omega)]
            · rw [u2_k _ _ _ _ (by omega), u2_a _ _ _ _ (by omega), up_n _ _ (by omega)]; exact hT j (by omega)
        · skip
          refine r_iconst (pc := 99) dX10_fewestPayments_99 ?_
          refine r_goto (pc := 100) 104 dX10_fewestPayments_100 (by decide) ?_
          refine r_iadd (pc := 104) dX10_fewestPayments_104 ?_
          refine i_SN3vx (pc := 105) okX11_put staX11_put nwX10_67 dX10_fewestPayments_105 (by decide) (Nat.le_of_ble_eq_true rfl) (sX11_put (n := 64) (j := s)) ?_
          refine r_iinc (pc := 108) dX10_fewestPayments_108 rfl ?_
          refine r_goto (pc := 111) 26 dX10_fewestPayments_111 (by decide) ?_
          refine ih (d - 1) (by omega) (s + 1) _ _ _ (by omega) (by omega) (by omega) (fun x h3 h4 => ?_) (fun j hj => ?_) (fun j hj => ?_)
          · funext k; rw [u2_a _ _ _ _ h4, u2_a _ _ _ _ h3]; exact congrFun (hO x h3 h4) k
          · rw [u2_a _ _ _ _ (by omega)]
            by_cases hjs : j = s
            · subst hjs; rw [u2_s]
            · rw [u2_k _ _ _ _ (by omega)]; exact hS j (by omega)
          · rw [show s + 1 - 1 = s - 1 + 1 by omega, tab, show s - 1 + 1 = s by omega, ← hcon]
            by_cases hjs : j = s
            · subst hjs
              rw [u2_s, up_s]
              first
                | rw [if_pos (by omega)]
                | rw [if_neg (by omega)]
            · rw [u2_k _ _ _ _ (by omega), u2_a _ _ _ _ (by omega), up_n _ _ (by omega)]; exact hT j (by omega)
  refine r_aload_n (pc := 0) dX10_fewestPayments_0 rfl ?_
  refine r_getP (pc := 1) dX10_fewestPayments_1 frX10_114 (by assumption) (by assumption) ?_
  refine r_getI (pc := 4) dX10_fewestPayments_4 frX10_94 (by assumption) ?_
  rw [e10]
  refine r_istore_n (pc := 7) dX10_fewestPayments_7 (by decide) ?_
  refine r_aload_n (pc := 8) dX10_fewestPayments_8 rfl ?_
  refine r_getP (pc := 9) dX10_fewestPayments_9 frX10_114 (by assumption) (by assumption) ?_
  refine i_V0ix (pc := 12) okX2_yearsToNoon inX2_yearsToNoon selX2_yearsToNoon q639 dX10_fewestPayments_12 (by assumption) rfl (by decide) (Nat.le_of_ble_eq_true rfl) (sX2_yearsToNoon (Y := Y)) ?_
  refine r_istore_n (pc := 15) dX10_fewestPayments_15 (by decide) ?_
  refine r_iconst (pc := 16) dX10_fewestPayments_16 ?_
  refine r_iload_n (pc := 17) dX10_fewestPayments_17 rfl ?_
  refine r_ishl (pc := 18) dX10_fewestPayments_18 ?_
  refine r_iconst (pc := 19) dX10_fewestPayments_19 ?_
  refine r_isub (pc := 20) dX10_fewestPayments_20 ?_
  rw [hall]
  refine r_istore (pc := 21) dX10_fewestPayments_21 (by decide) ?_
  refine r_iconst (pc := 23) dX10_fewestPayments_23 ?_
  refine r_istore (pc := 24) dX10_fewestPayments_24 (by decide) ?_
  refine loop (A - 1) 1 _ _ I (by omega) (by omega) (by omega) (fun _ _ _ => rfl) (fun j hj => ?_) (fun j hj => ?_)
  · have hj0 : j = 0 := by omega
    subst hj0
    rw [hs0]; simp [sumS]
  · have hj0 : j = 0 := by omega
    subst hj0
    rw [hg0]; rfl


