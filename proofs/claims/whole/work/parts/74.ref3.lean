/-! the reference: dusk, noon, the year -/
section REF3
variable {G : WG} {C : CF} {I : MI} {P : MP} {L : ML} {m : Nat} {R : Nat → Int} {Y : Int}
theorem sz_dusk1 (F : Nat → Int) : sizeF (eatR (workF F (sizeF F)) false) = sizeF F := by
  refine sz_same ?_
  rw [eatR_gw, gw_a _ _ _ (by decide) (by decide)]
  exact fx_work _ (by omega) (by omega) _
theorem forg_st (T : Nat → Int) (o : Nat) : forgF T (o + 1) = up (forgF T o) (9 + 4 * o) (max 0 (T (9 + 4 * o) - forgK (T (7 + 4 * o)))) := rfl
theorem sX12_goDusk (hm : RfL G C P m := by assumption) (hR : I (m + 1) = R := by first | exact uR_s _ _ _ | rfl) (hF : FI R Y := by assumption) (hY : Y ≤ 1000000 := by omega) (hb : noonF R (R 1) = false := by assumption) : SX12_goDusk G [.ref m] C I P L (NV C (XV (uR I (m + 1) (duskR R)) P L)) := by
  obtain ⟨hBm, hKm, hK1, hK2, hK3, hK4, hK5, hK6, hK7, hK8, hK9, hK10, hK11, hP0, hP1, hP2, hP3, hP6, hP7, hP8, hP9, hP10, hP16, hP17⟩ := id hm
  subst hR
  obtain ⟨hs6, hsz⟩ := sizeF_le hF
  have hWF := FI_work hF (sizeF (I (m + 1))) hs6
  have hW1 : workF (I (m + 1)) (sizeF (I (m + 1))) 1 = I (m + 1) 1 := fx_work _ (by omega) (by omega) _
  have hW0 : workF (I (m + 1)) (sizeF (I (m + 1))) 0 = I (m + 1) 0 := fx_work _ (by omega) (by omega) _
  have hWb : noonF (workF (I (m + 1)) (sizeF (I (m + 1)))) (workF (I (m + 1)) (sizeF (I (m + 1))) 1) = false := by
    rw [hW1]; unfold noonF; rw [hW0]; exact hb
  have hEF := FI_eatR hWF false
  have hz1 := sz_dusk1 (I (m + 1))
  have hMF := FI_warm hEF (sizeF (I (m + 1))) hs6
  have hM6 : sizeF (warmF (eatR (workF (I (m + 1)) (sizeF (I (m + 1)))) false) (sizeF (I (m + 1)))) = sizeF (I (m + 1)) := (sz_same (fx_warm _ (by omega) (by omega) _)).trans hz1
  have hD : duskR (I (m + 1)) = forgF (loseF (warmF (eatR (workF (I (m + 1)) (sizeF (I (m + 1)))) false) (sizeF (I (m + 1))))) (sizeF (I (m + 1))) := rfl
  refine en_V (by decide +kernel) (Nat.le_of_ble_eq_true rfl) ?_
  change Wd _ _ _ _ _ _ _ _ 0 [some _, none, none] [] _ _ _ _
  have loop2 : ∀ (T : Nat → Int), FI T Y → sizeF T = sizeF (I (m + 1)) → duskR (I (m + 1)) = forgF T (sizeF (I (m + 1))) → ∀ (d o : Nat) (i : Int) (w : Option Value) (J : MI), o + d = sizeF (I (m + 1)) → i = (o : Int) → J = uR I (m + 1) (forgF T o) → Wd G yX12_goDusk cX12_goDusk 3 none 3 (C.2.1 + 0, C.2.2 + 0) (NV C (XV (uR I (m + 1) (duskR (I (m + 1)))) P L)) 89 [some (.ref m), some (.int (zI i)), w] [] C J P L := by
    intro T hTF hTs hTD d
    induction d using Nat.strongRecOn with
    | _ d ih =>
      intro o i w J hd hi hJ
      subst hJ
      have h6 : forgF T o 6 = T 6 := fx_forg _ (by omega) _
      have h7 : forgF T o (7 + 4 * o) = T (7 + 4 * o) := fx_forg _ (by omega) _
      have h9 : forgF T o (9 + 4 * o) = T (9 + 4 * o) := forg_hi T o o (Nat.le_refl _)
      have hT6 := (sizeF_le hTF).2
      refine r_iload_n (pc := 89) dX12_goDusk_89 rfl ?_
      refine r_aload_n (pc := 90) dX12_goDusk_90 rfl ?_
      refine i_V0ix (pc := 91) okX12_families inX12_families selX12_families q1118 dX12_goDusk_91 (by assumption) rfl (by decide) (Nat.le_of_ble_eq_true rfl) (sX12_families) ?_
      try simp only [u2_I, uR_uR, uR_app, eq_self, Nat.reduceEqDiff, Nat.add_eq_left, Nat.left_eq_add, ↓reduceIte]
      refine r_icmp_ge (pc := 94) 145 dX12_goDusk_94 (by decide) (by omega) (by omega) (fun h94 => ?_) (fun h94 => ?_)
      · skip
        refine t_vret (pc := 145) dX12_goDusk_145 rfl ?_
        exact ⟨by rw [hTD, show sizeF (I (m + 1)) = o by omega], rfl, rfl⟩
      · skip
        have ho6 : o < 6 := by omega
        obtain ⟨f1, f2, f3, f4, f5⟩ := hTF.2.2.2.2.2.2.2 o ho6
        refine r_bipush (pc := 97) dX12_goDusk_97 (by decide) ?_
        refine r_iconst (pc := 99) dX12_goDusk_99 ?_
        refine r_iload_n (pc := 100) dX12_goDusk_100 rfl ?_
        refine r_imul (pc := 101) dX12_goDusk_101 ?_
        refine r_iadd (pc := 102) dX12_goDusk_102 ?_
        refine r_iconst (pc := 103) dX12_goDusk_103 ?_
        refine r_iadd (pc := 104) dX12_goDusk_104 ?_
        refine r_istore_n (pc := 105) dX12_goDusk_105 (by decide) ?_
        refine r_aload_n (pc := 106) dX12_goDusk_106 rfl ?_
        refine r_getA (pc := 107) dX12_goDusk_107 frX12_7 (by assumption) (by assumption) ?_
        refine r_iload_n (pc := 110) dX12_goDusk_110 rfl ?_
        refine r_dup2 (pc := 111) dX12_goDusk_111 rfl rfl ?_
        refine r_iald (j := 9 + 4 * o) (pc := 112) dX12_goDusk_112 (by assumption) (by omega) (by omega) (by omega) ?_
        try simp only [u2_I, uR_uR, uR_app, eq_self, Nat.reduceEqDiff, Nat.add_eq_left, Nat.left_eq_add, ↓reduceIte]
        refine r_aload_n (pc := 113) dX12_goDusk_113 rfl ?_
        refine r_iload_n (pc := 114) dX12_goDusk_114 rfl ?_
        refine r_iconst (pc := 115) dX12_goDusk_115 ?_
        rw [h9]
        refine i_V2ix (pc := 116) okX12_of inX12_of selX12_of q1137 dX12_goDusk_116 (by assumption) rfl (by decide) (Nat.le_of_ble_eq_true rfl) (sX12_of (k := 7 + 4 * o) (by omega)) ?_
        try simp only [u2_I, uR_uR, uR_app, eq_self, Nat.reduceEqDiff, Nat.add_eq_left, Nat.left_eq_add, ↓reduceIte]
        rw [h7]
        refine r_iconst (pc := 119) dX12_goDusk_119 ?_
        refine r_icmp_eq (pc := 120) 136 dX12_goDusk_120 (by decide) (by omega) (by omega) (fun h120 => ?_) (fun h120 => ?_)
        · skip
          refine r_iconst (pc := 136) dX12_goDusk_136 ?_
          refine r_isub (pc := 137) dX12_goDusk_137 ?_
          refine r_iast (j := 9 + 4 * o) (pc := 138) dX12_goDusk_138 (by assumption) (by omega) (by omega) (by omega) (by omega) ?_
          try simp only [u2_I, uR_uR, uR_app, eq_self, Nat.reduceEqDiff, Nat.add_eq_left, Nat.left_eq_add, ↓reduceIte]
          refine r_iinc (pc := 139) dX12_goDusk_139 rfl ?_
          refine r_goto (pc := 142) 89 dX12_goDusk_142 (by decide) ?_
          refine ih (d - 1) (by omega) (o + 1) _ _ _ (by omega) (by omega) ?_
          rw [forg_st, show max 0 (T (9 + 4 * o) - forgK (T (7 + 4 * o))) = T (9 + 4 * o) - 0 by unfold forgK; split <;> omega]
        · skip
          refine r_aload_n (pc := 123) dX12_goDusk_123 rfl ?_
          refine r_getA (pc := 124) dX12_goDusk_124 frX12_7 (by assumption) (by assumption) ?_
          refine r_iload_n (pc := 127) dX12_goDusk_127 rfl ?_
          refine r_iald (j := 9 + 4 * o) (pc := 128) dX12_goDusk_128 (by assumption) (by omega) (by omega) (by omega) ?_
          try simp only [u2_I, uR_uR, uR_app, eq_self, Nat.reduceEqDiff, Nat.add_eq_left, Nat.left_eq_add, ↓reduceIte]
          rw [h9]
          refine r_if_le (pc := 129) 136 dX12_goDusk_129 (by decide) (by omega) (fun h129 => ?_) (fun h129 => ?_)
          · skip
            refine r_iconst (pc := 136) dX12_goDusk_136 ?_
            refine r_isub (pc := 137) dX12_goDusk_137 ?_
            refine r_iast (j := 9 + 4 * o) (pc := 138) dX12_goDusk_138 (by assumption) (by omega) (by omega) (by omega) (by omega) ?_
            try simp only [u2_I, uR_uR, uR_app, eq_self, Nat.reduceEqDiff, Nat.add_eq_left, Nat.left_eq_add, ↓reduceIte]
            refine r_iinc (pc := 139) dX12_goDusk_139 rfl ?_
            refine r_goto (pc := 142) 89 dX12_goDusk_142 (by decide) ?_
            refine ih (d - 1) (by omega) (o + 1) _ _ _ (by omega) (by omega) ?_
            rw [forg_st, show max 0 (T (9 + 4 * o) - forgK (T (7 + 4 * o))) = T (9 + 4 * o) - 0 by unfold forgK; split <;> omega]
          · skip
            refine r_iconst (pc := 132) dX12_goDusk_132 ?_
            refine r_goto (pc := 133) 137 dX12_goDusk_133 (by decide) ?_
            refine r_isub (pc := 137) dX12_goDusk_137 ?_
            refine r_iast (j := 9 + 4 * o) (pc := 138) dX12_goDusk_138 (by assumption) (by omega) (by omega) (by omega) (by omega) ?_
            try simp only [u2_I, uR_uR, uR_app, eq_self, Nat.reduceEqDiff, Nat.add_eq_left, Nat.left_eq_add, ↓reduceIte]
            refine r_iinc (pc := 139) dX12_goDusk_139 rfl ?_
            refine r_goto (pc := 142) 89 dX12_goDusk_142 (by decide) ?_
            refine ih (d - 1) (by omega) (o + 1) _ _ _ (by omega) (by omega) ?_
            rw [forg_st, show max 0 (T (9 + 4 * o) - forgK (T (7 + 4 * o))) = T (9 + 4 * o) - 1 by unfold forgK; rw [if_neg (by omega)]; omega]
  have loop1 : ∀ (d o : Nat) (i : Int) (J : MI), o + d = sizeF (I (m + 1)) → i = (o : Int) → J = uR I (m + 1) (workF (I (m + 1)) o) → Wd G yX12_goDusk cX12_goDusk 3 none 3 (C.2.1 + 0, C.2.2 + 0) (NV C (XV (uR I (m + 1) (duskR (I (m + 1)))) P L)) 2 [some (.ref m), some (.int (zI i)), none] [] C J P L := by
    intro d
    induction d using Nat.strongRecOn with
    | _ d ih =>
      intro o i J hd hi hJ
      subst hJ
      have h6 : workF (I (m + 1)) o 6 = I (m + 1) 6 := fx_work _ (by omega) (by omega) _
      have hFI : FI (workF (I (m + 1)) o) Y := FI_work hF o (by omega)
      have hst : workF (I (m + 1)) (o + 1) = work1 (workF (I (m + 1)) o) o := rfl
      by_cases hlt : o < sizeF (I (m + 1))
      · generalize workF (I (m + 1)) o = T at h6 hFI hst ⊢
        refine r_iload_n (pc := 2) dX12_goDusk_2 rfl ?_
        refine r_aload_n (pc := 3) dX12_goDusk_3 rfl ?_
        refine i_V0ix (pc := 4) okX12_families inX12_families selX12_families q1118 dX12_goDusk_4 (by assumption) rfl (by decide) (Nat.le_of_ble_eq_true rfl) (sX12_families) ?_
        try simp only [u2_I, uR_uR, uR_app, eq_self, Nat.reduceEqDiff, Nat.add_eq_left, Nat.left_eq_add, ↓reduceIte]
        refine r_icmp_ge (pc := 7) 21 dX12_goDusk_7 (by decide) (by omega) (by omega) (fun h7 => ?_) (fun h7 => ?_)
        · exfalso; omega
        · skip
          refine r_aload_n (pc := 10) dX12_goDusk_10 rfl ?_
          refine r_iload_n (pc := 11) dX12_goDusk_11 rfl ?_
          refine i_V1vx (pc := 12) okX12_work inX12_work selX12_work q1181 dX12_goDusk_12 (by assumption) rfl (by decide) (Nat.le_of_ble_eq_true rfl) (sX12_work (f := o) (Y := Y)) ?_
          try simp only [u2_I, uR_uR, uR_app, eq_self, Nat.reduceEqDiff, Nat.add_eq_left, Nat.left_eq_add, ↓reduceIte]
          refine r_iinc (pc := 15) dX12_goDusk_15 rfl ?_
          refine r_goto (pc := 18) 2 dX12_goDusk_18 (by decide) ?_
          refine ih (d - 1) (by omega) (o + 1) _ _ (by omega) (by omega) ?_
          rw [hst]
      · have hos : o = sizeF (I (m + 1)) := by omega
        rw [hos]
        rw [hos] at h6 hFI
        obtain ⟨E, hEq⟩ : ∃ E, E = eatR (workF (I (m + 1)) (sizeF (I (m + 1)))) false := ⟨_, rfl⟩
        rw [← hEq] at hEF hMF hM6 hD hz1
        obtain ⟨W, hWq⟩ : ∃ W, W = warmF E (sizeF (I (m + 1))) := ⟨_, rfl⟩
        rw [← hWq] at hMF hM6 hD
        have hfin := hD
        have g1 := hMF.2.1
        have g2 := hMF.2.2.1
        have g3 := hMF.2.2.2.1
        have g4 := hMF.2.2.2.2.1
        have hLF : FI (loseF W) Y := FI_lose hMF
        have hLs : sizeF (loseF W) = sizeF (I (m + 1)) := (sz_same (fx_lose _ (by omega))).trans hM6
        refine r_iload_n (pc := 2) dX12_goDusk_2 rfl ?_
        refine r_aload_n (pc := 3) dX12_goDusk_3 rfl ?_
        refine i_V0ix (pc := 4) okX12_families inX12_families selX12_families q1118 dX12_goDusk_4 (by assumption) rfl (by decide) (Nat.le_of_ble_eq_true rfl) (sX12_families) ?_
        try simp only [u2_I, uR_uR, uR_app, eq_self, Nat.reduceEqDiff, Nat.add_eq_left, Nat.left_eq_add, ↓reduceIte]
        refine r_icmp_ge (pc := 7) 21 dX12_goDusk_7 (by decide) (by omega) (by omega) (fun h7 => ?_) (fun h7 => ?_)
        · skip
          refine r_aload_n (pc := 21) dX12_goDusk_21 rfl ?_
          refine i_V0vx (pc := 22) okX12_eat inX12_eat selX12_eat q1169 dX12_goDusk_22 (by assumption) rfl (by decide) (Nat.le_of_ble_eq_true rfl) (sX12_eat (b := false) (Y := Y)) ?_
          try simp only [u2_I, uR_uR, uR_app, eq_self, Nat.reduceEqDiff, Nat.add_eq_left, Nat.left_eq_add, ↓reduceIte]
          rw [← hEq]
          refine r_aload_n (pc := 25) dX12_goDusk_25 rfl ?_
          refine i_V0vx (pc := 26) okX12_freeze inX12_freeze selX12_freeze q1195 dX12_goDusk_26 (by assumption) rfl (by decide) (Nat.le_of_ble_eq_true rfl) (sX12_freeze (Y := Y)) ?_
          try simp only [u2_I, uR_uR, uR_app, eq_self, Nat.reduceEqDiff, Nat.add_eq_left, Nat.left_eq_add, ↓reduceIte]
          rw [hz1, ← hWq]
          refine r_aload_n (pc := 29) dX12_goDusk_29 rfl ?_
          refine r_getA (pc := 30) dX12_goDusk_30 frX12_7 (by assumption) (by assumption) ?_
          refine r_iconst (pc := 33) dX12_goDusk_33 ?_
          refine r_dup2 (pc := 34) dX12_goDusk_34 rfl rfl ?_
          refine r_iald (j := 2) (pc := 35) dX12_goDusk_35 (by assumption) rfl (by omega) (by omega) ?_
          try simp only [u2_I, uR_uR, uR_app, eq_self, Nat.reduceEqDiff, Nat.add_eq_left, Nat.left_eq_add, ↓reduceIte]
          refine r_aload_n (pc := 36) dX12_goDusk_36 rfl ?_
          refine r_getA (pc := 37) dX12_goDusk_37 frX12_7 (by assumption) (by assumption) ?_
          refine r_iconst (pc := 40) dX12_goDusk_40 ?_
          refine r_iald (j := 2) (pc := 41) dX12_goDusk_41 (by assumption) rfl (by omega) (by omega) ?_
          try simp only [u2_I, uR_uR, uR_app, eq_self, Nat.reduceEqDiff, Nat.add_eq_left, Nat.left_eq_add, ↓reduceIte]
          refine r_bipush (pc := 42) dX12_goDusk_42 (by decide) ?_
          refine r_idiv (pc := 44) dX12_goDusk_44 (by omega) (by omega) (by omega) (by omega) ?_
          refine r_isub (pc := 45) dX12_goDusk_45 ?_
          refine r_iast (j := 2) (pc := 46) dX12_goDusk_46 (by assumption) (by omega) rfl (by omega) (by omega) ?_
          try simp only [u2_I, uR_uR, uR_app, eq_self, Nat.reduceEqDiff, Nat.add_eq_left, Nat.left_eq_add, ↓reduceIte]
          skip
          refine r_aload_n (pc := 47) dX12_goDusk_47 rfl ?_
          refine r_getA (pc := 48) dX12_goDusk_48 frX12_7 (by assumption) (by assumption) ?_
          refine r_iconst (pc := 51) dX12_goDusk_51 ?_
          refine r_dup2 (pc := 52) dX12_goDusk_52 rfl rfl ?_
          refine r_iald (j := 3) (pc := 53) dX12_goDusk_53 (by assumption) rfl (by omega) (by omega) ?_
          try simp only [u2_I, uR_uR, uR_app, eq_self, Nat.reduceEqDiff, Nat.add_eq_left, Nat.left_eq_add, ↓reduceIte]
          refine r_aload_n (pc := 54) dX12_goDusk_54 rfl ?_
          refine r_getA (pc := 55) dX12_goDusk_55 frX12_7 (by assumption) (by assumption) ?_
          refine r_iconst (pc := 58) dX12_goDusk_58 ?_
          refine r_iald (j := 3) (pc := 59) dX12_goDusk_59 (by assumption) rfl (by omega) (by omega) ?_
          try simp only [u2_I, uR_uR, uR_app, eq_self, Nat.reduceEqDiff, Nat.add_eq_left, Nat.left_eq_add, ↓reduceIte]
          rw [up_n W (W 2 - W 2 / 10) (show 3 ≠ 2 by decide)]
          refine r_bipush (pc := 60) dX12_goDusk_60 (by decide) ?_
          refine r_idiv (pc := 62) dX12_goDusk_62 (by omega) (by omega) (by omega) (by omega) ?_
          refine r_isub (pc := 63) dX12_goDusk_63 ?_
          refine r_iast (j := 3) (pc := 64) dX12_goDusk_64 (by assumption) (by omega) rfl (by omega) (by omega) ?_
          try simp only [u2_I, uR_uR, uR_app, eq_self, Nat.reduceEqDiff, Nat.add_eq_left, Nat.left_eq_add, ↓reduceIte]
          refine r_aload_n (pc := 65) dX12_goDusk_65 rfl ?_
          refine r_iconst (pc := 66) dX12_goDusk_66 ?_
          refine r_aload_n (pc := 67) dX12_goDusk_67 rfl ?_
          refine r_getA (pc := 68) dX12_goDusk_68 frX12_7 (by assumption) (by assumption) ?_
          refine r_iconst (pc := 71) dX12_goDusk_71 ?_
          skip
          refine r_iald (j := 1) (pc := 72) dX12_goDusk_72 (by assumption) rfl (by omega) (by omega) ?_
          try simp only [u2_I, uR_uR, uR_app, eq_self, Nat.reduceEqDiff, Nat.add_eq_left, Nat.left_eq_add, ↓reduceIte]
          refine r_iconst (pc := 73) dX12_goDusk_73 ?_
          rw [up_n _ _ (show 1 ≠ 3 by decide), up_n _ _ (show 1 ≠ 2 by decide)]
          refine r_irem (pc := 74) dX12_goDusk_74 (by omega) (by omega) (by omega) (by omega) ?_
          refine r_iconst (pc := 75) dX12_goDusk_75 ?_
          refine r_icmp_ne (pc := 76) 83 dX12_goDusk_76 (by decide) (by omega) (by omega) (fun h76 => ?_) (fun h76 => ?_)
          · skip
            refine r_iconst (pc := 83) dX12_goDusk_83 ?_
            refine i_V2vx (pc := 84) okX12_put inX12_put selX12_put q1165 dX12_goDusk_84 (by assumption) rfl (by decide) (Nat.le_of_ble_eq_true rfl) (sX12_put (k := 4) (hv := by rw [up_n _ _ (show 4 ≠ 3 by decide), up_n _ _ (show 4 ≠ 2 by decide)]; omega)) ?_
            try simp only [u2_I, uR_uR, uR_app, eq_self, Nat.reduceEqDiff, Nat.add_eq_left, Nat.left_eq_add, ↓reduceIte]
            refine r_iconst (pc := 87) dX12_goDusk_87 ?_
            refine r_istore_n (pc := 88) dX12_goDusk_88 (by decide) ?_
            refine loop2 (loseF W) hLF hLs hfin (sizeF (I (m + 1))) 0 _ _ _ (by omega) rfl ?_
            show _ = uR I (m + 1) (loseF W)
            unfold loseF
            rw [if_neg (by omega), up_n _ _ (show 4 ≠ 3 by decide), up_n _ _ (show 4 ≠ 2 by decide), Int.add_zero, cut_id g4.1 g4.2]
            congr 1
            funext k
            simp only [up_app]
            (repeat' split) <;> first | rfl | (exfalso; omega) | (subst_vars; rfl)
          · skip
            refine r_iconst (pc := 79) dX12_goDusk_79 ?_
            refine r_goto (pc := 80) 84 dX12_goDusk_80 (by decide) ?_
            refine i_V2vx (pc := 84) okX12_put inX12_put selX12_put q1165 dX12_goDusk_84 (by assumption) rfl (by decide) (Nat.le_of_ble_eq_true rfl) (sX12_put (k := 4) (hv := by rw [up_n _ _ (show 4 ≠ 3 by decide), up_n _ _ (show 4 ≠ 2 by decide)]; omega)) ?_
            try simp only [u2_I, uR_uR, uR_app, eq_self, Nat.reduceEqDiff, Nat.add_eq_left, Nat.left_eq_add, ↓reduceIte]
            refine r_iconst (pc := 87) dX12_goDusk_87 ?_
            refine r_istore_n (pc := 88) dX12_goDusk_88 (by decide) ?_
            refine loop2 (loseF W) hLF hLs hfin (sizeF (I (m + 1))) 0 _ _ _ (by omega) rfl ?_
            show _ = uR I (m + 1) (loseF W)
            unfold loseF
            rw [if_pos (by omega), up_n _ _ (show 4 ≠ 3 by decide), up_n _ _ (show 4 ≠ 2 by decide)]; rfl
        · exfalso; omega
  refine r_iconst (pc := 0) dX12_goDusk_0 ?_
  refine r_istore_n (pc := 1) dX12_goDusk_1 (by decide) ?_
  exact loop1 (sizeF (I (m + 1))) 0 _ _ (by omega) rfl (uR_same I (m + 1)).symm
theorem hands_st (F : Nat → Int) (o : Nat) : handsF F (o + 1) = handsF F o + (if 0 < F (9 + 4 * o) then F (8 + 4 * o) else 0) := rfl
theorem sX12_fieldsNow (hm : RfL G C P m := by assumption) (hR : I (m + 1) = R := by first | exact uR_s _ _ _ | rfl) (hF : FI R Y := by assumption) : SX12_fieldsNow G [.ref m] C I P L (NI C (XI (sownF R) I P L)) := by
  obtain ⟨hBm, hKm, hK1, hK2, hK3, hK4, hK5, hK6, hK7, hK8, hK9, hK10, hK11, hP0, hP1, hP2, hP3, hP6, hP7, hP8, hP9, hP10, hP16, hP17⟩ := id hm
  subst hR
  obtain ⟨hs6, hsz⟩ := sizeF_le hF
  have g3 := hF.2.2.2.1
  have g4 := hF.2.2.2.2.1
  have hH := handsF_in hF
  have hS : sownF (I (m + 1)) = min (min (I (m + 1) 3) (3 * I (m + 1) 4)) (handsF (I (m + 1)) (sizeF (I (m + 1)))) := rfl
  refine en_I (by decide +kernel) (Nat.le_of_ble_eq_true rfl) ?_
  change Wd _ _ _ _ _ _ _ _ 0 [some _, none, none] [] _ _ _ _
  have loop : ∀ (d o : Nat) (i a : Int), o + d = sizeF (I (m + 1)) → i = (o : Int) → a = handsF (I (m + 1)) o → Wd G yX12_fieldsNow cX12_fieldsNow 3 (some .int) 1 (C.2.1 + 0, C.2.2 + 0) (NI C (XI (sownF (I (m + 1))) I P L)) 4 [some (.ref m), some (.int (zI a)), some (.int (zI i))] [] C I P L := by
    intro d
    induction d using Nat.strongRecOn with
    | _ d ih =>
      intro o i a hd hi ha
      have hHo := hH o (by omega)
      refine r_iload_n (pc := 4) dX12_fieldsNow_4 rfl ?_
      refine r_aload_n (pc := 5) dX12_fieldsNow_5 rfl ?_
      refine i_V0ix (pc := 6) okX12_families inX12_families selX12_families q1118 dX12_fieldsNow_6 (by assumption) rfl (by decide) (Nat.le_of_ble_eq_true rfl) (sX12_families) ?_
      refine r_icmp_ge (pc := 9) 40 dX12_fieldsNow_9 (by decide) (by omega) (by omega) (fun h9 => ?_) (fun h9 => ?_)
      · skip
        have hos : o = sizeF (I (m + 1)) := by omega
        rw [← hos, ← ha] at hS
        refine r_aload_n (pc := 40) dX12_fieldsNow_40 rfl ?_
        refine r_getA (pc := 41) dX12_fieldsNow_41 frX12_7 (by assumption) (by assumption) ?_
        refine r_iconst (pc := 44) dX12_fieldsNow_44 ?_
        refine r_iald (j := 3) (pc := 45) dX12_fieldsNow_45 (by assumption) rfl (by omega) (by omega) ?_
        refine r_iconst (pc := 46) dX12_fieldsNow_46 ?_
        refine r_aload_n (pc := 47) dX12_fieldsNow_47 rfl ?_
        refine r_getA (pc := 48) dX12_fieldsNow_48 frX12_7 (by assumption) (by assumption) ?_
        refine r_iconst (pc := 51) dX12_fieldsNow_51 ?_
        refine r_iald (j := 4) (pc := 52) dX12_fieldsNow_52 (by assumption) rfl (by omega) (by omega) ?_
        refine r_imul (pc := 53) dX12_fieldsNow_53 ?_
        refine r_icmp_ge (pc := 54) 66 dX12_fieldsNow_54 (by decide) (by omega) (by omega) (fun h54 => ?_) (fun h54 => ?_)
        · skip
          refine r_iconst (pc := 66) dX12_fieldsNow_66 ?_
          refine r_aload_n (pc := 67) dX12_fieldsNow_67 rfl ?_
          refine r_getA (pc := 68) dX12_fieldsNow_68 frX12_7 (by assumption) (by assumption) ?_
          refine r_iconst (pc := 71) dX12_fieldsNow_71 ?_
          refine r_iald (j := 4) (pc := 72) dX12_fieldsNow_72 (by assumption) rfl (by omega) (by omega) ?_
          refine r_imul (pc := 73) dX12_fieldsNow_73 ?_
          refine r_istore_n (pc := 74) dX12_fieldsNow_74 (by decide) ?_
          refine r_iload_n (pc := 75) dX12_fieldsNow_75 rfl ?_
          refine r_iload_n (pc := 76) dX12_fieldsNow_76 rfl ?_
          refine r_icmp_ge (pc := 77) 84 dX12_fieldsNow_77 (by decide) (by omega) (by omega) (fun h77 => ?_) (fun h77 => ?_)
          · skip
            refine r_iload_n (pc := 84) dX12_fieldsNow_84 rfl ?_
            refine t_iret (pc := 85) dX12_fieldsNow_85 rfl rfl ?_
            exact ⟨by omega, rfl, rfl, rfl⟩
          · skip
            refine r_iload_n (pc := 80) dX12_fieldsNow_80 rfl ?_
            refine r_goto (pc := 81) 85 dX12_fieldsNow_81 (by decide) ?_
            refine t_iret (pc := 85) dX12_fieldsNow_85 rfl rfl ?_
            exact ⟨by omega, rfl, rfl, rfl⟩
        · skip
          refine r_aload_n (pc := 57) dX12_fieldsNow_57 rfl ?_
          refine r_getA (pc := 58) dX12_fieldsNow_58 frX12_7 (by assumption) (by assumption) ?_
          refine r_iconst (pc := 61) dX12_fieldsNow_61 ?_
          refine r_iald (j := 3) (pc := 62) dX12_fieldsNow_62 (by assumption) rfl (by omega) (by omega) ?_
          refine r_goto (pc := 63) 74 dX12_fieldsNow_63 (by decide) ?_
          refine r_istore_n (pc := 74) dX12_fieldsNow_74 (by decide) ?_
          refine r_iload_n (pc := 75) dX12_fieldsNow_75 rfl ?_
          refine r_iload_n (pc := 76) dX12_fieldsNow_76 rfl ?_
          refine r_icmp_ge (pc := 77) 84 dX12_fieldsNow_77 (by decide) (by omega) (by omega) (fun h77 => ?_) (fun h77 => ?_)
          · skip
            refine r_iload_n (pc := 84) dX12_fieldsNow_84 rfl ?_
            refine t_iret (pc := 85) dX12_fieldsNow_85 rfl rfl ?_
            exact ⟨by omega, rfl, rfl, rfl⟩
          · skip
            refine r_iload_n (pc := 80) dX12_fieldsNow_80 rfl ?_
            refine r_goto (pc := 81) 85 dX12_fieldsNow_81 (by decide) ?_
            refine t_iret (pc := 85) dX12_fieldsNow_85 rfl rfl ?_
            exact ⟨by omega, rfl, rfl, rfl⟩
      · skip
        have ho6 : o < 6 := by omega
        obtain ⟨f1, f2, f3, f4, f5⟩ := hF.2.2.2.2.2.2.2 o ho6
        refine r_iload_n (pc := 12) dX12_fieldsNow_12 rfl ?_
        refine r_aload_n (pc := 13) dX12_fieldsNow_13 rfl ?_
        refine r_iload_n (pc := 14) dX12_fieldsNow_14 rfl ?_
        refine r_iconst (pc := 15) dX12_fieldsNow_15 ?_
        refine i_V2ix (pc := 16) okX12_of inX12_of selX12_of q1137 dX12_fieldsNow_16 (by assumption) rfl (by decide) (Nat.le_of_ble_eq_true rfl) (sX12_of (k := 9 + 4 * o) (by omega)) ?_
        refine r_if_le (pc := 19) 31 dX12_fieldsNow_19 (by decide) (by omega) (fun h19 => ?_) (fun h19 => ?_)
        · skip
          refine r_iconst (pc := 31) dX12_fieldsNow_31 ?_
          refine r_iadd (pc := 32) dX12_fieldsNow_32 ?_
          refine r_istore_n (pc := 33) dX12_fieldsNow_33 (by decide) ?_
          refine r_iinc (pc := 34) dX12_fieldsNow_34 rfl ?_
          refine r_goto (pc := 37) 4 dX12_fieldsNow_37 (by decide) ?_
          refine ih (d - 1) (by omega) (o + 1) _ _ (by omega) (by omega) ?_
          rw [hands_st, ← ha, if_neg (by omega)]
        · skip
          refine r_aload_n (pc := 22) dX12_fieldsNow_22 rfl ?_
          refine r_iload_n (pc := 23) dX12_fieldsNow_23 rfl ?_
          refine r_iconst (pc := 24) dX12_fieldsNow_24 ?_
          refine i_V2ix (pc := 25) okX12_of inX12_of selX12_of q1137 dX12_fieldsNow_25 (by assumption) rfl (by decide) (Nat.le_of_ble_eq_true rfl) (sX12_of (k := 8 + 4 * o) (by omega)) ?_
          refine r_goto (pc := 28) 32 dX12_fieldsNow_28 (by decide) ?_
          refine r_iadd (pc := 32) dX12_fieldsNow_32 ?_
          refine r_istore_n (pc := 33) dX12_fieldsNow_33 (by decide) ?_
          refine r_iinc (pc := 34) dX12_fieldsNow_34 rfl ?_
          refine r_goto (pc := 37) 4 dX12_fieldsNow_37 (by decide) ?_
          refine ih (d - 1) (by omega) (o + 1) _ _ (by omega) (by omega) ?_
          rw [hands_st, ← ha, if_pos (by omega)]
  refine r_iconst (pc := 0) dX12_fieldsNow_0 ?_
  refine r_istore_n (pc := 1) dX12_fieldsNow_1 (by decide) ?_
  refine r_iconst (pc := 2) dX12_fieldsNow_2 ?_
  refine r_istore_n (pc := 3) dX12_fieldsNow_3 (by decide) ?_
  exact loop (sizeF (I (m + 1))) 0 _ _ (by omega) rfl rfl
theorem rem_st (F : Nat → Int) (o : Nat) : remF F (o + 1) = up (remF F o) (9 + 4 * o) 9 := rfl
theorem sX12_goNoon {bad : Bool} {x : Int} (hx : x = (if bad = true then 1 else 0) := by first | rfl | assumption) (hm : RfL G C P m := by assumption) (hR : I (m + 1) = R := by first | exact uR_s _ _ _ | rfl) (hF : FI R Y := by assumption) (hY : Y ≤ 1000000 := by omega) (hb : noonF R (R 1) = true := by assumption) : SX12_goNoon G [.ref m, .int (zI x)] C I P L (NV C (XV (uR I (m + 1) (noonR R (if bad then sownF R / 2 else sownF R))) P L)) := by
  obtain ⟨hBm, hKm, hK1, hK2, hK3, hK4, hK5, hK6, hK7, hK8, hK9, hK10, hK11, hP0, hP1, hP2, hP3, hP6, hP7, hP8, hP9, hP10, hP16, hP17⟩ := id hm
  subst hR
  obtain ⟨hs6, hsz⟩ := sizeF_le hF
  have hS := sownF_in hF
  have g2 := hF.2.2.1
  have g3 := hF.2.2.2.1
  have g4 := hF.2.2.2.2.1
  have g5 := hF.2.2.2.2.2.1
  have hbx : iR x := by rw [hx]; cases bad <;> decide
  refine en_V (by decide +kernel) (Nat.le_of_ble_eq_true rfl) ?_
  change Wd _ _ _ _ _ _ _ _ 0 [some _, some _, none, none] [] _ _ _ _
  have loop : ∀ (T : Nat → Int) (s : Int), T 6 = I (m + 1) 6 → noonR (I (m + 1)) s = remF T (sizeF (I (m + 1))) → ∀ (d o : Nat) (i : Int) (J : MI) (x2 : Int), o + d = sizeF (I (m + 1)) → i = (o : Int) → J = uR I (m + 1) (remF T o) → Wd G yX12_goNoon cX12_goNoon 4 none 3 (C.2.1 + 0, C.2.2 + 0) (NV C (XV (uR I (m + 1) (noonR (I (m + 1)) s)) P L)) 54 [some (.ref m), some (.int (zI x)), some (.int (zI x2)), some (.int (zI i))] [] C J P L := by
    intro T s hT66 hTD d
    induction d using Nat.strongRecOn with
    | _ d ih =>
      intro o i J x2 hd hi hJ
      subst hJ
      have h6 : remF T o 6 = T 6 := fx_rem _ (by omega) _
      have hT6 : T 6 = I (m + 1) 6 := hT66
      refine r_iload_n (pc := 54) dX12_goNoon_54 rfl ?_
      refine r_aload_n (pc := 55) dX12_goNoon_55 rfl ?_
      refine i_V0ix (pc := 56) okX12_families inX12_families selX12_families q1118 dX12_goNoon_56 (by assumption) rfl (by decide) (Nat.le_of_ble_eq_true rfl) (sX12_families) ?_
      try simp only [u2_I, uR_uR, uR_app, eq_self, Nat.reduceEqDiff, Nat.add_eq_left, Nat.left_eq_add, ↓reduceIte]
      refine r_icmp_ge (pc := 59) 83 dX12_goNoon_59 (by decide) (by omega) (by omega) (fun h59 => ?_) (fun h59 => ?_)
      · skip
        refine t_vret (pc := 83) dX12_goNoon_83 rfl ?_
        exact ⟨by rw [hTD, show sizeF (I (m + 1)) = o by omega], rfl, rfl⟩
      · skip
        refine r_aload_n (pc := 62) dX12_goNoon_62 rfl ?_
        refine r_getA (pc := 63) dX12_goNoon_63 frX12_7 (by assumption) (by assumption) ?_
        refine r_bipush (pc := 66) dX12_goNoon_66 (by decide) ?_
        refine r_iconst (pc := 68) dX12_goNoon_68 ?_
        refine r_iload_n (pc := 69) dX12_goNoon_69 rfl ?_
        refine r_imul (pc := 70) dX12_goNoon_70 ?_
        refine r_iadd (pc := 71) dX12_goNoon_71 ?_
        refine r_iconst (pc := 72) dX12_goNoon_72 ?_
        refine r_iadd (pc := 73) dX12_goNoon_73 ?_
        refine r_bipush (pc := 74) dX12_goNoon_74 (by decide) ?_
        refine r_iast (j := 9 + 4 * o) (pc := 76) dX12_goNoon_76 (by assumption) (by omega) (by omega) (by omega) (by omega) ?_
        try simp only [u2_I, uR_uR, uR_app, eq_self, Nat.reduceEqDiff, Nat.add_eq_left, Nat.left_eq_add, ↓reduceIte]
        refine r_iinc (pc := 77) dX12_goNoon_77 rfl ?_
        refine r_goto (pc := 80) 54 dX12_goNoon_80 (by decide) ?_
        refine ih (d - 1) (by omega) (o + 1) _ _ _ (by omega) (by omega) ?_
        rw [rem_st]
  have main : ∀ (s : Int), 0 ≤ s ∧ s ≤ 9999 → Wd G yX12_goNoon cX12_goNoon 4 none 3 (C.2.1 + 0, C.2.2 + 0) (NV C (XV (uR I (m + 1) (noonR (I (m + 1)) s)) P L)) 17 [some (.ref m), some (.int (zI x)), none, none] [.int (zI s)] C I P L := by
    intro s hs
    have hHF : FI (harvF (I (m + 1)) s) Y := FI_harv hF s
    have hH1 : harvF (I (m + 1)) s 1 = I (m + 1) 1 := fx_harv _ _ (by omega)
    have hH0 : harvF (I (m + 1)) s 0 = I (m + 1) 0 := fx_harv _ _ (by omega)
    have hHb : noonF (harvF (I (m + 1)) s) (harvF (I (m + 1)) s 1) = true := by
      rw [hH1]; unfold noonF; rw [hH0]; exact hb
    have hTs : eatR (harvF (I (m + 1)) s) true 6 = I (m + 1) 6 := by
      rw [eatR_gw, gw_a _ _ _ (by decide) (by decide)]
      exact fx_harv _ _ (by omega)
    have hHe : up (up (up (up (I (m + 1)) 2 (cut (I (m + 1) 2 + 5 * s))) 3 (cut (I (m + 1) 3 + s))) 4 (cut (I (m + 1) 4 + -(s / 3)))) 5 (cut (I (m + 1) 5 + 10)) = harvF (I (m + 1)) s := by
      unfold harvF; rw [← Int.sub_eq_add_neg]
    refine r_istore_n (pc := 17) dX12_goNoon_17 (by decide) ?_
    refine r_aload_n (pc := 18) dX12_goNoon_18 rfl ?_
    refine r_iconst (pc := 19) dX12_goNoon_19 ?_
    refine r_iconst (pc := 20) dX12_goNoon_20 ?_
    refine r_iload_n (pc := 21) dX12_goNoon_21 rfl ?_
    refine r_imul (pc := 22) dX12_goNoon_22 ?_
    refine i_V2vx (pc := 23) okX12_put inX12_put selX12_put q1165 dX12_goNoon_23 (by assumption) rfl (by decide) (Nat.le_of_ble_eq_true rfl) (sX12_put (k := 2)) ?_
    try simp only [u2_I, uR_uR, uR_app, eq_self, Nat.reduceEqDiff, Nat.add_eq_left, Nat.left_eq_add, ↓reduceIte]
    refine r_aload_n (pc := 26) dX12_goNoon_26 rfl ?_
    refine r_iconst (pc := 27) dX12_goNoon_27 ?_
    refine r_iload_n (pc := 28) dX12_goNoon_28 rfl ?_
    refine i_V2vx (pc := 29) okX12_put inX12_put selX12_put q1165 dX12_goNoon_29 (by assumption) rfl (by decide) (Nat.le_of_ble_eq_true rfl) (sX12_put (k := 3) (hv := by rw [up_n _ _ (show 3 ≠ 2 by decide)]; omega)) ?_
    try simp only [u2_I, uR_uR, uR_app, eq_self, Nat.reduceEqDiff, Nat.add_eq_left, Nat.left_eq_add, ↓reduceIte]
    rw [up_n _ _ (show 3 ≠ 2 by decide)]
    refine r_aload_n (pc := 32) dX12_goNoon_32 rfl ?_
    refine r_iconst (pc := 33) dX12_goNoon_33 ?_
    refine r_iload_n (pc := 34) dX12_goNoon_34 rfl ?_
    refine r_iconst (pc := 35) dX12_goNoon_35 ?_
    refine r_idiv (pc := 36) dX12_goNoon_36 (by omega) (by omega) (by omega) (by omega) ?_
    refine r_ineg (pc := 37) dX12_goNoon_37 ?_
    refine i_V2vx (pc := 38) okX12_put inX12_put selX12_put q1165 dX12_goNoon_38 (by assumption) rfl (by decide) (Nat.le_of_ble_eq_true rfl) (sX12_put (k := 4) (hv := by rw [up_n _ _ (show 4 ≠ 3 by decide), up_n _ _ (show 4 ≠ 2 by decide)]; omega)) ?_
    try simp only [u2_I, uR_uR, uR_app, eq_self, Nat.reduceEqDiff, Nat.add_eq_left, Nat.left_eq_add, ↓reduceIte]
    rw [up_n _ _ (show 4 ≠ 3 by decide), up_n _ _ (show 4 ≠ 2 by decide)]
    refine r_aload_n (pc := 41) dX12_goNoon_41 rfl ?_
    refine r_iconst (pc := 42) dX12_goNoon_42 ?_
    refine r_bipush (pc := 43) dX12_goNoon_43 (by decide) ?_
    refine i_V2vx (pc := 45) okX12_put inX12_put selX12_put q1165 dX12_goNoon_45 (by assumption) rfl (by decide) (Nat.le_of_ble_eq_true rfl) (sX12_put (k := 5) (hv := by rw [up_n _ _ (show 5 ≠ 4 by decide), up_n _ _ (show 5 ≠ 3 by decide), up_n _ _ (show 5 ≠ 2 by decide)]; omega)) ?_
    try simp only [u2_I, uR_uR, uR_app, eq_self, Nat.reduceEqDiff, Nat.add_eq_left, Nat.left_eq_add, ↓reduceIte]
    rw [up_n _ _ (show 5 ≠ 4 by decide), up_n _ _ (show 5 ≠ 3 by decide), up_n _ _ (show 5 ≠ 2 by decide), hHe]
    refine r_aload_n (pc := 48) dX12_goNoon_48 rfl ?_
    refine i_V0vx (pc := 49) okX12_eat inX12_eat selX12_eat q1169 dX12_goNoon_49 (by assumption) rfl (by decide) (Nat.le_of_ble_eq_true rfl) (sX12_eat (b := true) (Y := Y)) ?_
    try simp only [u2_I, uR_uR, uR_app, eq_self, Nat.reduceEqDiff, Nat.add_eq_left, Nat.left_eq_add, ↓reduceIte]
    refine r_iconst (pc := 52) dX12_goNoon_52 ?_
    refine r_istore_n (pc := 53) dX12_goNoon_53 (by decide) ?_
    exact loop _ s hTs rfl (sizeF (I (m + 1))) 0 _ _ _ (by omega) rfl rfl
  refine r_iload_n (pc := 0) dX12_goNoon_0 rfl ?_
  refine r_if_eq (pc := 1) 13 dX12_goNoon_1 (by decide) (by omega) (fun h1 => ?_) (fun h1 => ?_)
  · skip
    refine r_aload_n (pc := 13) dX12_goNoon_13 rfl ?_
    refine i_V0ix (pc := 14) okX12_fieldsNow inX12_fieldsNow selX12_fieldsNow q1161 dX12_goNoon_14 (by assumption) rfl (by decide) (Nat.le_of_ble_eq_true rfl) (sX12_fieldsNow (Y := Y)) ?_
    rw [show (if bad = true then sownF (I (m + 1)) / 2 else sownF (I (m + 1))) = sownF (I (m + 1)) by rw [if_neg (by cases bad <;> simp_all)]]
    exact main _ (by omega)
  · skip
    refine r_aload_n (pc := 4) dX12_goNoon_4 rfl ?_
    refine i_V0ix (pc := 5) okX12_fieldsNow inX12_fieldsNow selX12_fieldsNow q1161 dX12_goNoon_5 (by assumption) rfl (by decide) (Nat.le_of_ble_eq_true rfl) (sX12_fieldsNow (Y := Y)) ?_
    refine r_iconst (pc := 8) dX12_goNoon_8 ?_
    refine r_idiv (pc := 9) dX12_goNoon_9 (by omega) (by omega) (by omega) (by omega) ?_
    refine r_goto (pc := 10) 17 dX12_goNoon_10 (by decide) ?_
    rw [show (if bad = true then sownF (I (m + 1)) / 2 else sownF (I (m + 1))) = sownF (I (m + 1)) / 2 by rw [if_pos (by cases bad <;> simp_all)]]
    exact main _ (by omega)
theorem sX12_goYear {bad : Bool} {x : Int} (hx : x = (if bad = true then 1 else 0) := by first | rfl | assumption) (hm : RfL G C P m := by assumption) (hR : I (m + 1) = R := by first | exact uR_s _ _ _ | rfl) (hF : FI R Y := by assumption) (hY : Y ≤ 1000000 := by omega) : SX12_goYear G [.ref m, .int (zI x)] C I P L (NI C (XI (wantF R bad) (uR I (m + 1) (goF R bad)) P L)) := by
  obtain ⟨hBm, hKm, hK1, hK2, hK3, hK4, hK5, hK6, hK7, hK8, hK9, hK10, hK11, hP0, hP1, hP2, hP3, hP6, hP7, hP8, hP9, hP10, hP16, hP17⟩ := id hm
  subst hR
  obtain ⟨hs6, hsz⟩ := sizeF_le hF
  have h0 := hF.1
  have h1 := hF.2.1
  obtain ⟨e1, e2, e3⟩ := goR_eq hs6 bad
  have nb : ∀ b : Bool, iR (if b = true then 1 else 0) := fun b => by cases b <;> decide
  refine en_I (by decide +kernel) (Nat.le_of_ble_eq_true rfl) ?_
  change Wd _ _ _ _ _ _ _ _ 0 [some _, some _, none] [] _ _ _ _
  by_cases hn : noonF (I (m + 1)) (I (m + 1) 1) = true
  · rw [if_pos hn] at e1 e2 e3
    refine r_aload_n (pc := 0) dX12_goYear_0 rfl ?_
    refine r_getA (pc := 1) dX12_goYear_1 frX12_7 (by assumption) (by assumption) ?_
    refine r_bipush (pc := 4) dX12_goYear_4 (by decide) ?_
    refine r_iald (j := 31) (pc := 6) dX12_goYear_6 (by assumption) rfl (by omega) (by omega) ?_
    refine r_istore_n (pc := 7) dX12_goYear_7 (by decide) ?_
    refine r_aload_n (pc := 8) dX12_goYear_8 rfl ?_
    refine r_aload_n (pc := 9) dX12_goYear_9 rfl ?_
    refine r_getA (pc := 10) dX12_goYear_10 frX12_7 (by assumption) (by assumption) ?_
    refine r_iconst (pc := 13) dX12_goYear_13 ?_
    refine r_iald (j := 1) (pc := 14) dX12_goYear_14 (by assumption) rfl (by omega) (by omega) ?_
    refine i_V1ix (pc := 15) okX12_isNoon inX12_isNoon selX12_isNoon q1153 dX12_goYear_15 (by assumption) rfl (by decide) (Nat.le_of_ble_eq_true rfl) (sX12_isNoon) ?_
    rw [hn]
    refine r_if_eq (pc := 18) 29 dX12_goYear_18 (by decide) (by omega) (fun h18 => ?_) (fun h18 => ?_)
    · exact absurd h18 (by decide)
    · skip
      refine r_aload_n (pc := 21) dX12_goYear_21 rfl ?_
      refine r_iload_n (pc := 22) dX12_goYear_22 rfl ?_
      refine i_V1vx (pc := 23) okX12_goNoon inX12_goNoon selX12_goNoon q1157 dX12_goYear_23 (by assumption) rfl (by decide) (Nat.le_of_ble_eq_true rfl) (sX12_goNoon (bad := bad) (Y := Y)) ?_
      try simp only [u2_I, uR_uR, uR_app, eq_self, Nat.reduceEqDiff, Nat.add_eq_left, Nat.left_eq_add, ↓reduceIte]
      refine r_goto (pc := 26) 33 dX12_goYear_26 (by decide) ?_
      refine r_aload_n (pc := 33) dX12_goYear_33 rfl ?_
      refine r_getA (pc := 34) dX12_goYear_34 frX12_7 (by assumption) (by assumption) ?_
      refine r_iconst (pc := 37) dX12_goYear_37 ?_
      refine r_dup2 (pc := 38) dX12_goYear_38 rfl rfl ?_
      refine r_iald (j := 1) (pc := 39) dX12_goYear_39 (by assumption) rfl (by omega) (by omega) ?_
      try simp only [u2_I, uR_uR, uR_app, eq_self, Nat.reduceEqDiff, Nat.add_eq_left, Nat.left_eq_add, ↓reduceIte]
      rw [e3]
      refine r_iconst (pc := 40) dX12_goYear_40 ?_
      refine r_iadd (pc := 41) dX12_goYear_41 ?_
      refine r_iast (j := 1) (pc := 42) dX12_goYear_42 (by assumption) (by omega) rfl (by omega) (by omega) ?_
      try simp only [u2_I, uR_uR, uR_app, eq_self, Nat.reduceEqDiff, Nat.add_eq_left, Nat.left_eq_add, ↓reduceIte]
      refine r_aload_n (pc := 43) dX12_goYear_43 rfl ?_
      refine r_getA (pc := 44) dX12_goYear_44 frX12_7 (by assumption) (by assumption) ?_
      refine r_bipush (pc := 47) dX12_goYear_47 (by decide) ?_
      refine r_iald (j := 31) (pc := 49) dX12_goYear_49 (by assumption) rfl (by omega) (by omega) ?_
      try simp only [u2_I, uR_uR, uR_app, eq_self, Nat.reduceEqDiff, Nat.add_eq_left, Nat.left_eq_add, ↓reduceIte]
      rw [up_n _ _ (show 31 ≠ 1 by decide), e2]
      refine r_iload_n (pc := 50) dX12_goYear_50 rfl ?_
      refine r_isub (pc := 51) dX12_goYear_51 ?_
      refine t_iret (pc := 52) dX12_goYear_52 rfl rfl ?_
      exact ⟨by omega, by rw [e1], rfl, rfl⟩
  · rw [if_neg hn] at e1 e2 e3
    have hnf : noonF (I (m + 1)) (I (m + 1) 1) = false := by simpa using hn
    refine r_aload_n (pc := 0) dX12_goYear_0 rfl ?_
    refine r_getA (pc := 1) dX12_goYear_1 frX12_7 (by assumption) (by assumption) ?_
    refine r_bipush (pc := 4) dX12_goYear_4 (by decide) ?_
    refine r_iald (j := 31) (pc := 6) dX12_goYear_6 (by assumption) rfl (by omega) (by omega) ?_
    refine r_istore_n (pc := 7) dX12_goYear_7 (by decide) ?_
    refine r_aload_n (pc := 8) dX12_goYear_8 rfl ?_
    refine r_aload_n (pc := 9) dX12_goYear_9 rfl ?_
    refine r_getA (pc := 10) dX12_goYear_10 frX12_7 (by assumption) (by assumption) ?_
    refine r_iconst (pc := 13) dX12_goYear_13 ?_
    refine r_iald (j := 1) (pc := 14) dX12_goYear_14 (by assumption) rfl (by omega) (by omega) ?_
    refine i_V1ix (pc := 15) okX12_isNoon inX12_isNoon selX12_isNoon q1153 dX12_goYear_15 (by assumption) rfl (by decide) (Nat.le_of_ble_eq_true rfl) (sX12_isNoon) ?_
    rw [hnf]
    refine r_if_eq (pc := 18) 29 dX12_goYear_18 (by decide) (by omega) (fun h18 => ?_) (fun h18 => ?_)
    · skip
      refine r_aload_n (pc := 29) dX12_goYear_29 rfl ?_
      refine i_V0vx (pc := 30) okX12_goDusk inX12_goDusk selX12_goDusk q1177 dX12_goYear_30 (by assumption) rfl (by decide) (Nat.le_of_ble_eq_true rfl) (sX12_goDusk (Y := Y)) ?_
      try simp only [u2_I, uR_uR, uR_app, eq_self, Nat.reduceEqDiff, Nat.add_eq_left, Nat.left_eq_add, ↓reduceIte]
      refine r_aload_n (pc := 33) dX12_goYear_33 rfl ?_
      refine r_getA (pc := 34) dX12_goYear_34 frX12_7 (by assumption) (by assumption) ?_
      refine r_iconst (pc := 37) dX12_goYear_37 ?_
      refine r_dup2 (pc := 38) dX12_goYear_38 rfl rfl ?_
      refine r_iald (j := 1) (pc := 39) dX12_goYear_39 (by assumption) rfl (by omega) (by omega) ?_
      try simp only [u2_I, uR_uR, uR_app, eq_self, Nat.reduceEqDiff, Nat.add_eq_left, Nat.left_eq_add, ↓reduceIte]
      rw [e3]
      refine r_iconst (pc := 40) dX12_goYear_40 ?_
      refine r_iadd (pc := 41) dX12_goYear_41 ?_
      refine r_iast (j := 1) (pc := 42) dX12_goYear_42 (by assumption) (by omega) rfl (by omega) (by omega) ?_
      try simp only [u2_I, uR_uR, uR_app, eq_self, Nat.reduceEqDiff, Nat.add_eq_left, Nat.left_eq_add, ↓reduceIte]
      refine r_aload_n (pc := 43) dX12_goYear_43 rfl ?_
      refine r_getA (pc := 44) dX12_goYear_44 frX12_7 (by assumption) (by assumption) ?_
      refine r_bipush (pc := 47) dX12_goYear_47 (by decide) ?_
      refine r_iald (j := 31) (pc := 49) dX12_goYear_49 (by assumption) rfl (by omega) (by omega) ?_
      try simp only [u2_I, uR_uR, uR_app, eq_self, Nat.reduceEqDiff, Nat.add_eq_left, Nat.left_eq_add, ↓reduceIte]
      rw [up_n _ _ (show 31 ≠ 1 by decide), e2]
      refine r_iload_n (pc := 50) dX12_goYear_50 rfl ?_
      refine r_isub (pc := 51) dX12_goYear_51 ?_
      refine t_iret (pc := 52) dX12_goYear_52 rfl rfl ?_
      exact ⟨by omega, by rw [e1], rfl, rfl⟩
    · exact absurd rfl h18
end REF3

