/-! on to the next token -/
theorem sX7_advance {G : WG} {C : CF} {I : MI} {P : MP} {L : ML} {r n a : Nat} (hr : ReadL G C P r := by assumption) (hI : ReadI I r n := by assumption) (ha : I r 4 = (a : Int) := by assumption) (han : a ≤ n := by omega) : SX7_advance G [.ref r] C I P L (NV C (QR r (tok (I (r + 1)) n a).1 (tok (I (r + 1)) n a).2.1 (numV (I (r + 1)) (tok (I (r + 1)) n a).1 ((tok (I (r + 1)) n a).2.1 - (tok (I (r + 1)) n a).1)) I (tok (I (r + 1)) n a).2.2 P L)) := by
  obtain ⟨hB, hK, hK1, hK2, hP0, hP1⟩ := id hr
  obtain ⟨h2, h150, hbb⟩ := id hI
  have hne : r + 1 ≠ r := by omega
  generalize hb : I (r + 1) = b at *
  have hti := tok_in b han
  generalize ht : tok b n a = T at *
  obtain ⟨ts, te, tso⟩ := T
  simp only at hti
  have hS := skp_in b (n - a) a
  unfold tok at ht
  generalize hSS : skp b (n - a) a = S at *
  generalize hq : QR r (ts : Int) (te : Int) (numV b ts (te - ts)) I tso P L = q
  try simp only
  try rw [hq]
  refine en_V (by decide +kernel) (Nat.le_of_ble_eq_true rfl) ?_
  change Wd _ _ _ _ _ _ _ _ 0 [some _, none] [] _ _ _ _
  have letl : S < n → ∀ (d p : Nat) (I1 : MI), p + d = n → S < p → I1 r 2 = (n : Int) → I1 r 3 = (S : Int) → I1 r 4 = (p : Int) → I1 r 5 = 2 → (∀ x, x ≠ r → I1 x = I x) → ts = S → te = runB isLet b (n - p) p → tso = 2 → Wd G yX7_advance cX7_advance 2 none 3 (C.2.1 + 0, C.2.2 + 0) (NV C q) 102 [some (.ref r), some (.int (zI (S : Int)))] [] C I1 P L := by
    intro hSn d
    induction d using Nat.strongRecOn with
    | _ d ih =>
      intro p I1 hd hp e2 e3 e4 e5 hO hts hte htso
      have eb : I1 (r + 1) = b := by rw [hO _ hne, hb]
      have hI1 : ReadI I1 r n := ⟨e2, h150, by rw [eb]; exact hbb⟩
      refine r_aload_n (pc := 102) dX7_advance_102 rfl ?_
      refine r_getI (pc := 103) dX7_advance_103 frX7_32 (by assumption) ?_
      refine r_aload_n (pc := 106) dX7_advance_106 rfl ?_
      refine r_getI (pc := 107) dX7_advance_107 frX7_18 (by assumption) ?_
      refine r_icmp_ge (pc := 110) 157 dX7_advance_110 (by decide) (by first | omega | exact iR_b _) (by first | omega | exact iR_b _) (fun h110 => ?_) (fun h110 => ?_)
      · skip
        have hpn : p = n := by omega
        rw [hpn, Nat.sub_self, runB] at hte
        refine t_vret (pc := 157) dX7_advance_157 rfl ?_
        have hEp : te = p := by
          first
          | omega
          | (have hf : isLet (b p) = false := by rw [← eb]; cases hz : isLet (I1 (r + 1) p) <;> simp_all
             rw [hf] at hte; simp only [Bool.false_eq_true, if_false] at hte; exact hte)
        subst hq
        exact ⟨by rw [e2, h2], by rw [e3, hts], by rw [e4, hEp], by rw [e5, htso], fun h => by omega, hO, rfl, rfl⟩
      · skip
        have hbp := hbb p (by omega)
        obtain ⟨d', hd'⟩ : ∃ d', n - p = d' + 1 := ⟨n - p - 1, by omega⟩
        rw [hd', runB] at hte
        refine r_aload_n (pc := 113) dX7_advance_113 rfl ?_
        refine r_aload_n (pc := 114) dX7_advance_114 rfl ?_
        refine r_getI (pc := 115) dX7_advance_115 frX7_32 (by assumption) ?_
        refine i_V1ix (pc := 118) okX7_isLetter inX7_isLetter selX7_isLetter q421 dX7_advance_118 (by assumption) rfl (by decide) (Nat.le_of_ble_eq_true rfl) (sX7_isLetter (j := p) (n := n)) ?_
        refine r_if_eq (pc := 121) 157 dX7_advance_121 (by decide) (by first | omega | exact iR_b _) (fun h121 => ?_) (fun h121 => ?_)
        · skip
          refine t_vret (pc := 157) dX7_advance_157 rfl ?_
          have hEp : te = p := by
            first
            | omega
            | (have hf : isLet (b p) = false := by rw [← eb]; cases hz : isLet (I1 (r + 1) p) <;> simp_all
               rw [hf] at hte; simp only [Bool.false_eq_true, if_false] at hte; exact hte)
          subst hq
          exact ⟨by rw [e2, h2], by rw [e3, hts], by rw [e4, hEp], by rw [e5, htso], fun h => by omega, hO, rfl, rfl⟩
        · skip
          refine r_aload_n (pc := 124) dX7_advance_124 rfl ?_
          refine r_dup (pc := 125) dX7_advance_125 rfl ?_
          refine r_getI (pc := 126) dX7_advance_126 frX7_32 (by assumption) ?_
          refine r_iconst (pc := 129) dX7_advance_129 ?_
          refine r_iadd (pc := 130) dX7_advance_130 ?_
          refine r_putI (pc := 131) dX7_advance_131 fwX7_32 (by assumption) (by first | omega | exact iR_b _) ?_
          refine r_goto (pc := 134) 102 dX7_advance_134 (by decide) ?_
          have hf : isLet (b p) = true := by rw [← eb]; cases hz : isLet (I1 (r + 1) p) <;> simp_all
          rw [if_pos hf] at hte
          refine ih (d - 1) (by omega) (p + 1) _ (by omega) (by omega) ?_ ?_ ?_ ?_ (fun x hx => ?_) hts ?_ htso
          · rw [u2_k _ _ _ _ (by decide), e2]
          · rw [u2_k _ _ _ _ (by decide), e3]
          · rw [u2_s, e4]; omega
          · rw [u2_k _ _ _ _ (by decide), e5]
          · funext k; rw [u2_a _ _ _ _ hx]; exact congrFun (hO x hx) k
          · rw [hte, show n - (p + 1) = d' by omega]
  have rest : ∀ (i : Int), i = (S : Int) → Wd G yX7_advance cX7_advance 2 none 3 (C.2.1 + 0, C.2.2 + 0) (NV C q) 32 [some (.ref r), some (.int (zI i))] [] C I P L := by
    intro i hi
    refine r_aload_n (pc := 32) dX7_advance_32 rfl ?_
    refine r_iload_n (pc := 33) dX7_advance_33 rfl ?_
    refine r_putI (pc := 34) dX7_advance_34 fwX7_45 (by assumption) (by first | omega | exact iR_b _) ?_
    refine r_aload_n (pc := 37) dX7_advance_37 rfl ?_
    refine r_iload_n (pc := 38) dX7_advance_38 rfl ?_
    refine r_iconst (pc := 39) dX7_advance_39 ?_
    refine r_iadd (pc := 40) dX7_advance_40 ?_
    refine r_putI (pc := 41) dX7_advance_41 fwX7_32 (by assumption) (by first | omega | exact iR_b _) ?_
    generalize hI2 : u2 (u2 I r 3 i) r 4 (i + 1) = I2
    have e2 : I2 r 2 = (n : Int) := by rw [← hI2, u2_k _ _ _ _ (by decide), u2_k _ _ _ _ (by decide), h2]
    have e3 : I2 r 3 = (S : Int) := by rw [← hI2, u2_k _ _ _ _ (by decide), u2_s, hi]
    have e4 : I2 r 4 = ((S + 1 : Nat) : Int) := by rw [← hI2, u2_s]; omega
    have hO : ∀ x, x ≠ r → I2 x = I x := fun x hx => by funext k; rw [← hI2, u2_a _ _ _ _ hx, u2_a _ _ _ _ hx]
    have eb : I2 (r + 1) = b := by rw [hO _ hne, hb]
    have hIr : ReadI I2 r n := ⟨e2, h150, by rw [eb]; exact hbb⟩
    refine r_iload_n (pc := 44) dX7_advance_44 rfl ?_
    refine r_aload_n (pc := 45) dX7_advance_45 rfl ?_
    refine r_getI (pc := 46) dX7_advance_46 frX7_18 (by assumption) ?_
    try simp only [u2_app, true_and, and_true, and_false, false_and, and_self, Nat.reduceEqDiff, ↓reduceIte]
    refine r_icmp_lt (pc := 49) 68 dX7_advance_49 (by decide) (by first | omega | exact iR_b _) (by first | omega | exact iR_b _) (fun h49 => ?_) (fun h49 => ?_)
    · skip
      have hbp := hbb S (by omega)
      rw [if_neg (by omega)] at ht
      refine r_aload_n (pc := 68) dX7_advance_68 rfl ?_
      refine r_getA (pc := 69) dX7_advance_69 frX7_9 (by assumption) (by assumption) ?_
      refine r_iload_n (pc := 72) dX7_advance_72 rfl ?_
      refine i_SN2ix (pc := 73) okX11_at staX11_at nwX7_71 dX7_advance_73 (by decide) (Nat.le_of_ble_eq_true rfl) (sX11_at (n := 150) (j := S)) ?_
      rw [eb]
      refine r_bipush (pc := 76) dX7_advance_76 (by decide) ?_
      refine r_icmp_ne (pc := 78) 89 dX7_advance_78 (by decide) (by first | omega | exact iR_b _) (by first | omega | exact iR_b _) (fun h78 => ?_) (fun h78 => ?_)
      · skip
        rw [if_neg h78] at ht
        refine r_aload_n (pc := 89) dX7_advance_89 rfl ?_
        refine r_iload_n (pc := 90) dX7_advance_90 rfl ?_
        refine i_V1ix (pc := 91) okX7_isLetter inX7_isLetter selX7_isLetter q421 dX7_advance_91 (by assumption) rfl (by decide) (Nat.le_of_ble_eq_true rfl) (sX7_isLetter (j := S) (n := n)) ?_
        rw [eb]
        refine r_if_eq (pc := 94) 137 dX7_advance_94 (by decide) (by first | omega | exact iR_b _) (fun h94 => ?_) (fun h94 => ?_)
        · skip
          rw [if_neg (by intro hz; rw [hz] at h94; simp at h94)] at ht
          refine r_aload_n (pc := 137) dX7_advance_137 rfl ?_
          refine r_iload_n (pc := 138) dX7_advance_138 rfl ?_
          refine i_V1ix (pc := 139) okX7_isFigure inX7_isFigure selX7_isFigure q426 dX7_advance_139 (by assumption) rfl (by decide) (Nat.le_of_ble_eq_true rfl) (sX7_isFigure (j := S) (n := n)) ?_
          rw [eb]
          refine r_if_eq (pc := 142) 152 dX7_advance_142 (by decide) (by first | omega | exact iR_b _) (fun h142 => ?_) (fun h142 => ?_)
          · skip
            rw [if_neg (by intro hz; rw [hz] at h142; simp at h142)] at ht
            injection ht with t1 t2
            injection t2 with t2 t3
            refine r_aload_n (pc := 152) dX7_advance_152 rfl ?_
            refine r_iconst (pc := 153) dX7_advance_153 ?_
            refine r_putI (pc := 154) dX7_advance_154 fwX7_38 (by assumption) (by first | omega | exact iR_b _) ?_
            refine t_vret (pc := 157) dX7_advance_157 rfl ?_
            subst hq
            refine ⟨?_, ?_, ?_, ?_, fun h => by omega, fun x hx => ?_, rfl, rfl⟩
            · rw [u2_k _ _ _ _ (by decide), e2, h2]
            · rw [u2_k _ _ _ _ (by decide), e3, t1]
            · rw [u2_k _ _ _ _ (by decide), e4, t2]
            · rw [u2_s]; omega
            · funext k; rw [u2_a _ _ _ _ hx]; exact congrFun (hO x hx) k
          · skip
            rw [if_pos (by cases hz : isFig (b S) <;> simp_all)] at ht
            injection ht with t1 t2
            injection t2 with t2 t3
            refine r_aload_n (pc := 145) dX7_advance_145 rfl ?_
            refine i_V0vg (pc := 146) okX7_advanceNumber inX7_advanceNumber selX7_advanceNumber q430 dX7_advance_146 (by assumption) rfl (by decide) (Nat.le_of_ble_eq_true rfl) (sX7_advanceNumber (n := n) (s := S)) (fun I3 P3 L3 hq3 => ?_)
            obtain ⟨f2, f3, f4, f5, f6, fO, rfl, rfl⟩ := hq3
            rw [eb] at f4 f5 f6
            refine r_goto (pc := 149) 157 dX7_advance_149 (by decide) ?_
            refine t_vret (pc := 157) dX7_advance_157 rfl ?_
            subst hq
            exact ⟨by rw [f2, e2, h2], by rw [f3, t1], by rw [f4, t2], by rw [f5, t3], fun h => by rw [f6 (by rw [t3]; exact h), ← t1, ← t2], fun x hx => (fO x hx).trans (hO x hx), rfl, rfl⟩
        · skip
          rw [if_pos (by cases hz : isLet (b S) <;> simp_all)] at ht
          injection ht with t1 t2
          injection t2 with t2 t3
          refine r_aload_n (pc := 97) dX7_advance_97 rfl ?_
          refine r_iconst (pc := 98) dX7_advance_98 ?_
          refine r_putI (pc := 99) dX7_advance_99 fwX7_38 (by assumption) (by first | omega | exact iR_b _) ?_
          rw [hi]
          refine letl (by omega) (n - (S + 1)) (S + 1) _ (by omega) (by omega) ?_ ?_ ?_ ?_ (fun x hx => ?_) t1.symm t2.symm t3.symm
          · rw [u2_k _ _ _ _ (by decide), e2]
          · rw [u2_k _ _ _ _ (by decide), e3]
          · rw [u2_k _ _ _ _ (by decide), e4]
          · rw [u2_s]
          · funext k; rw [u2_a _ _ _ _ hx]; exact congrFun (hO x hx) k
      · skip
        rw [if_pos (by omega)] at ht
        injection ht with t1 t2
        injection t2 with t2 t3
        refine r_aload_n (pc := 81) dX7_advance_81 rfl ?_
        refine r_iconst (pc := 82) dX7_advance_82 ?_
        refine r_putI (pc := 83) dX7_advance_83 fwX7_38 (by assumption) (by first | omega | exact iR_b _) ?_
        refine r_goto (pc := 86) 157 dX7_advance_86 (by decide) ?_
        refine t_vret (pc := 157) dX7_advance_157 rfl ?_
        subst hq
        refine ⟨?_, ?_, ?_, ?_, fun h => by omega, fun x hx => ?_, rfl, rfl⟩
        · rw [u2_k _ _ _ _ (by decide), e2, h2]
        · rw [u2_k _ _ _ _ (by decide), e3, t1]
        · rw [u2_k _ _ _ _ (by decide), e4, t2]
        · rw [u2_s]; omega
        · funext k; rw [u2_a _ _ _ _ hx]; exact congrFun (hO x hx) k
    · skip
      rw [if_pos (by omega)] at ht
      injection ht with t1 t2
      injection t2 with t2 t3
      refine r_aload_n (pc := 52) dX7_advance_52 rfl ?_
      refine r_iconst (pc := 53) dX7_advance_53 ?_
      refine r_putI (pc := 54) dX7_advance_54 fwX7_38 (by assumption) (by first | omega | exact iR_b _) ?_
      refine r_aload_n (pc := 57) dX7_advance_57 rfl ?_
      refine r_aload_n (pc := 58) dX7_advance_58 rfl ?_
      refine r_getI (pc := 59) dX7_advance_59 frX7_18 (by assumption) ?_
      try simp only [u2_app, true_and, and_true, and_false, false_and, and_self, Nat.reduceEqDiff, ↓reduceIte]
      refine r_putI (pc := 62) dX7_advance_62 fwX7_32 (by assumption) (by first | omega | exact iR_b _) ?_
      refine r_goto (pc := 65) 157 dX7_advance_65 (by decide) ?_
      refine t_vret (pc := 157) dX7_advance_157 rfl ?_
      subst hq
      refine ⟨?_, ?_, ?_, ?_, fun h => by omega, fun x hx => ?_, rfl, rfl⟩
      · simp only [u2_app, eq_self, true_and, Nat.reduceEqDiff, if_false]; rw [e2, h2]
      · simp only [u2_app, eq_self, true_and, Nat.reduceEqDiff, if_false]; rw [e3, t1]
      · rw [u2_s, e2, t2]
      · simp only [u2_app, eq_self, true_and, Nat.reduceEqDiff, if_false, if_true]; omega
      · funext k; rw [u2_a _ _ _ _ hx, u2_a _ _ _ _ hx]; exact congrFun (hO x hx) k
  have loop : ∀ (d p : Nat) (i : Int), p + d = n → i = (p : Int) → skp b (n - p) p = S → Wd G yX7_advance cX7_advance 2 none 3 (C.2.1 + 0, C.2.2 + 0) (NV C q) 5 [some (.ref r), some (.int (zI i))] [] C I P L := by
    intro d
    induction d using Nat.strongRecOn with
    | _ d ih =>
      intro p i hd hi hsk
      refine r_iload_n (pc := 5) dX7_advance_5 rfl ?_
      refine r_aload_n (pc := 6) dX7_advance_6 rfl ?_
      refine r_getI (pc := 7) dX7_advance_7 frX7_18 (by assumption) ?_
      refine r_icmp_ge (pc := 10) 32 dX7_advance_10 (by decide) (by omega) (by omega) (fun h10 => ?_) (fun h10 => ?_)
      · skip
        have hpn : p = n := by omega
        rw [hpn, Nat.sub_self, skp] at hsk
        exact rest _ (by omega)
      · skip
        have hbp := hbb p (by omega)
        obtain ⟨d', hd'⟩ : ∃ d', n - p = d' + 1 := ⟨n - p - 1, by omega⟩
        rw [hd', skp] at hsk
        refine r_aload_n (pc := 13) dX7_advance_13 rfl ?_
        refine r_getA (pc := 14) dX7_advance_14 frX7_9 (by assumption) (by assumption) ?_
        refine r_iload_n (pc := 17) dX7_advance_17 rfl ?_
        refine i_SN2ix (pc := 18) okX11_at staX11_at nwX7_71 dX7_advance_18 (by decide) (Nat.le_of_ble_eq_true rfl) (sX11_at (n := 150) (j := p)) ?_
        refine r_bipush (pc := 21) dX7_advance_21 (by decide) ?_
        rw [hb]
        refine r_icmp_ne (pc := 23) 32 dX7_advance_23 (by decide) (by omega) (by omega) (fun h23 => ?_) (fun h23 => ?_)
        · skip
          rw [if_neg h23] at hsk
          exact rest _ (by omega)
        · skip
          refine r_iinc (pc := 26) dX7_advance_26 rfl ?_
          refine r_goto (pc := 29) 5 dX7_advance_29 (by decide) ?_
          rw [if_pos (by omega)] at hsk
          exact ih (d - 1) (by omega) (p + 1) _ (by omega) (by omega) (by rw [show n - (p + 1) = d' by omega]; exact hsk)
  refine r_aload_n (pc := 0) dX7_advance_0 rfl ?_
  refine r_getI (pc := 1) dX7_advance_1 frX7_32 (by assumption) ?_
  refine r_istore_n (pc := 4) dX7_advance_4 (by decide) ?_
  exact loop (n - a) a _ (by omega) (by omega) hSS

