/-! the reference: debts, items -/
section REF14
variable {G : WG} {C : CF} {I : MI} {P : MP} {L : ML} {m n : Nat} {T : Nat × Nat × Int} {v : Int}
theorem sX12_readsDebt {s k : Nat} (hm : RfL G C P m := by assumption) (hT : TSf n T v (I m) := by assumption) (h150 : n ≤ 150 := by omega) (hbb : ∀ j, j < 150 → 0 ≤ I (m + 9) j ∧ I (m + 9) j ≤ 127 := by assumption) (hTn : T.1 ≤ T.2.1 ∧ T.2.1 ≤ n := by omega) (hs : I (m + 10) 6 = (s : Int) := by assumption) (hs6 : s ≤ 6 := by omega) (hk : I (m + 10) 33 = (k : Int) := by assumption) (hk8 : k ≤ 8 := by omega) : SX12_readsDebt G [.ref m] C I P L (NI C (fun r I1 P1 L1 => (k = 8 ∧ r = 0 ∧ I1 = I ∧ P = P1 ∧ L = L1) ∨ (k < 8 ∧ QAr m n 4 (argS (I (m + 9)) n 4 (s : Int) 3 0 T.2.1 (I (m + 11))) I P L r I1 P1 L1))) := by
  obtain ⟨hBm, hKm, hK1, hK2, hK3, hK4, hK5, hK6, hK7, hK8, hK9, hK10, hK11, hP0, hP1, hP2, hP3, hP6, hP7, hP8, hP9, hP10, hP16, hP17⟩ := id hm
  have hkn : (I (m + 10) 33).toNat = k := by omega
  obtain ⟨b, hb⟩ : ∃ b, b = I (m + 9) := ⟨_, rfl⟩
  rw [← hb] at hbb ⊢
  have t0 := tok_in b (n := n) (a := T.2.1) hTn.2
  have t1 := tok_in b (n := n) (a := (tok b n T.2.1).2.1) t0.2.2.2.1
  have t2 := tok_in b (n := n) (a := (tok b n (tok b n T.2.1).2.1).2.1) t1.2.2.2.1
  have n0 := fun h => tok_num (b := b) (n := n) (a := T.2.1) h
  have n1 := fun h => tok_num (b := b) (n := n) (a := (tok b n T.2.1).2.1) h
  have n2 := fun h => tok_num (b := b) (n := n) (a := (tok b n (tok b n T.2.1).2.1).2.1) h
  have hA := arg_st b n 4 (s : Int) 2 0 T.2.1 (I (m + 11))
  generalize hAA : argS b n 4 (s : Int) (2 + 1) 0 T.2.1 (I (m + 11)) = A at hA
  rw [arg_st, arg_st, arg_0] at hA
  simp only [Nat.zero_add, Nat.reduceAdd] at hA
  simp only [ft40, ft41, ft42] at hA
  rw [up_s] at hA
  generalize hT0 : tok b n T.2.1 = T0 at t0 t1 t2 n0 n1 n2 hA
  generalize hT1 : tok b n T0.2.1 = T1 at t1 t2 n1 n2 hA
  generalize hT2 : tok b n T1.2.1 = T2 at t2 n2 hA
  generalize hV0 : tokV b n T.2.1 = v0 at n0 hA
  generalize hV1 : tokV b n T0.2.1 = v1 at n1 hA
  generalize hV2 : tokV b n T1.2.1 = v2 at n2 hA
  obtain ⟨-, -, -, -, ke2, -⟩ := kM_in (show 0 ≤ T1.2.2 ∧ T1.2.2 ≤ 4 by omega)
  have hkm := kM_in (show 0 ≤ T1.2.2 ∧ T1.2.2 ≤ 4 by omega)
  have hkm : iR (kM T1.2.2) := by omega
  refine en_I (by decide +kernel) (Nat.le_of_ble_eq_true rfl) ?_
  change Wd _ _ _ _ _ _ _ _ 0 [some _] [] _ _ _ _
  refine r_aload_n (pc := 0) dX12_readsDebt_0 rfl ?_
  refine r_getA (pc := 1) dX12_readsDebt_1 frX12_42 (by assumption) (by assumption) ?_
  refine r_bipush (pc := 4) dX12_readsDebt_4 (by decide) ?_
  refine r_iald (j := 33) (pc := 6) dX12_readsDebt_6 (by assumption) rfl (by omega) (by omega) ?_
  refine r_bipush (pc := 7) dX12_readsDebt_7 (by decide) ?_
  rw [hk]
  refine r_icmp_ne (pc := 9) 14 dX12_readsDebt_9 (by decide) (by omega) (by omega) (fun h9 => ?_) (fun h9 => ?_)
  · skip
    refine r_aload_n (pc := 14) dX12_readsDebt_14 rfl ?_
    refine i_V0vg (pc := 15) okX12_goOn inX12_goOn selX12_goOn q1418 dX12_readsDebt_15 (by assumption) rfl (by decide) (Nat.le_of_ble_eq_true rfl) (sX12_goOn (n := n) (T := T) (v := v) (hbb := by rw [← hb]; exact hbb)) (fun I0 P0 L0 hq0 => ?_)
    rw [← hb, hT0, hV0] at hq0
    obtain ⟨⟨k0, u0, o0⟩, rfl, rfl⟩ := KR_ofK hq0
    have b0 : I0 (m + 9) = b := by rw [o0 _ (by omega) (by omega)]; exact hb.symm
    have hs0 : I0 (m + 10) 6 = (s : Int) := by rw [o0 _ (by omega) (by omega)]; exact hs
    try simp only [u2_I, uR_uR, uR_app, eq_self, Nat.reduceEqDiff, Nat.add_eq_left, Nat.left_eq_add, ↓reduceIte]
    refine r_aload_n (pc := 18) dX12_readsDebt_18 rfl ?_
    refine r_iconst (pc := 19) dX12_readsDebt_19 ?_
    refine r_iconst (pc := 20) dX12_readsDebt_20 ?_
    refine r_aload_n (pc := 21) dX12_readsDebt_21 rfl ?_
    refine i_V0ix (pc := 22) okX12_lastFamily inX12_lastFamily selX12_lastFamily q1434 dX12_readsDebt_22 (by assumption) rfl (by decide) (Nat.le_of_ble_eq_true rfl) (sX12_lastFamily) ?_
    try simp only [u2_I, uR_uR, uR_app, eq_self, Nat.reduceEqDiff, Nat.add_eq_left, Nat.left_eq_add, ↓reduceIte]
    rw [hs0]
    refine i_V3ig (pc := 25) okX12_takes inX12_takes selX12_takes q1422 dX12_readsDebt_25 (by assumption) rfl (by decide) (Nat.le_of_ble_eq_true rfl) (sX12_takes (k := 0) (n := n) (T := T0) (v := v0) (hT := k0) (hbb := by rw [b0]; exact hbb)) (fun r1 I1 P1 L1 hq1 => ?_)
    obtain ⟨hq1, rfl, rfl⟩ := hq1
    have hr1 : iR r1 := by rcases hq1 with ⟨-, -, -, q, -⟩ | ⟨-, q, -⟩ <;> rw [q] <;> decide
    try simp only [u2_I, uR_uR, uR_app, eq_self, Nat.reduceEqDiff, Nat.add_eq_left, Nat.left_eq_add, ↓reduceIte]
    refine r_if_eq (pc := 28) 77 dX12_readsDebt_28 (by decide) (by omega) (fun h28 => ?_) (fun h28 => ?_)
    · skip
      refine r_iconst (pc := 77) dX12_readsDebt_77 ?_
      refine t_iret (pc := 78) dX12_readsDebt_78 rfl rfl ?_
      refine Or.inr ⟨by omega, Or.inr ?_, ?_, rfl, rfl⟩
      · first
        | (have q := (hq3.resolve_left (fun q => absurd (q.2.2.2.1.symm.trans h74) (by decide)))
           rw [if_pos ⟨a1, a2, a3⟩, if_pos ⟨c1, hne, c2, c3⟩, if_neg q.1] at hA
           rw [hA, q.2.2]
           exact ⟨rfl, rfl, k2.1, k2.2.1⟩)
        | (have q := (hq2.resolve_left (fun q => absurd (q.2.2.2.1.symm.trans h62) (by decide)))
           rw [if_pos ⟨a1, a2, a3⟩, if_neg (fun z => q.1 ⟨z.1, z.2.2.1, z.2.2.2⟩)] at hA
           rw [hA, q.2.2]
           exact ⟨rfl, rfl, k1.1, k1.2.1⟩)
        | (rw [if_pos ⟨a1, a2, a3⟩, if_neg (fun z => z.2.1 h49)] at hA
           rw [hA]
           exact ⟨rfl, rfl, k1.1, k1.2.1⟩)
        | (have q := (hq1.resolve_left (fun q => absurd (q.2.2.2.1.symm.trans h28) (by decide)))
           rw [if_neg q.1] at hA
           rw [hA, q.2.2]
           exact ⟨rfl, rfl, k0.1, k0.2.1⟩)
      · intro x e1 e2 e3
        first
        | (have q := (hq3.resolve_left (fun q => absurd (q.2.2.2.1.symm.trans h74) (by decide)))
           rw [q.2.2, o2 _ e1 e3, o1 _ e1 e3, o0 _ e1 e3])
        | (have q := (hq2.resolve_left (fun q => absurd (q.2.2.2.1.symm.trans h62) (by decide)))
           rw [q.2.2, o1 _ e1 e3, o0 _ e1 e3])
        | rw [o1 _ e1 e3, o0 _ e1 e3]
        | (have q := (hq1.resolve_left (fun q => absurd (q.2.2.2.1.symm.trans h28) (by decide)))
           rw [q.2.2, o0 _ e1 e3])
    · skip
      have hq1a := hq1.resolve_right (fun q => h28 q.2.1)
      obtain ⟨a1, a2, a3, -, a5⟩ := hq1a
      rw [b0, hT1, hV1, u0] at a5
      obtain ⟨k1, u1, o1⟩ := KR_of a5
      have b1 : I1 (m + 9) = b := by rw [o1 _ (by omega) (by omega)]; exact b0
      have hs1 : I1 (m + 10) 6 = (s : Int) := by rw [o1 _ (by omega) (by omega)]; exact hs0
      have g1z : I1 (m + 11) 0 = v0 := by rw [u1, up_s]
      have hv0 := n0 a1
      refine r_aload_n (pc := 31) dX12_readsDebt_31 rfl ?_
      refine r_getI (pc := 32) dX12_readsDebt_32 frX12_257 (by assumption) ?_
      try simp only [u2_I, uR_uR, uR_app, eq_self, Nat.reduceEqDiff, Nat.add_eq_left, Nat.left_eq_add, ↓reduceIte]
      refine r_iconst (pc := 35) dX12_readsDebt_35 ?_
      rw [k1.2.2.2.1]
      refine r_icmp_ne (pc := 36) 52 dX12_readsDebt_36 (by decide) (by omega) (by omega) (fun h36 => ?_) (fun h36 => ?_)
      · skip
        refine r_aload_n (pc := 52) dX12_readsDebt_52 rfl ?_
        refine r_iconst (pc := 53) dX12_readsDebt_53 ?_
        refine r_iconst (pc := 54) dX12_readsDebt_54 ?_
        refine r_aload_n (pc := 55) dX12_readsDebt_55 rfl ?_
        refine i_V0ix (pc := 56) okX12_lastFamily inX12_lastFamily selX12_lastFamily q1434 dX12_readsDebt_56 (by assumption) rfl (by decide) (Nat.le_of_ble_eq_true rfl) (sX12_lastFamily) ?_
        try simp only [u2_I, uR_uR, uR_app, eq_self, Nat.reduceEqDiff, Nat.add_eq_left, Nat.left_eq_add, ↓reduceIte]
        rw [hs1]
        refine i_V3ig (pc := 59) okX12_takes inX12_takes selX12_takes q1422 dX12_readsDebt_59 (by assumption) rfl (by decide) (Nat.le_of_ble_eq_true rfl) (sX12_takes (k := 1) (n := n) (T := T1) (v := v1) (hT := k1) (hbb := by rw [b1]; exact hbb)) (fun r2 I2 P2 L2 hq2 => ?_)
        obtain ⟨hq2, rfl, rfl⟩ := hq2
        have hr2 : iR r2 := by rcases hq2 with ⟨-, -, -, q, -⟩ | ⟨-, q, -⟩ <;> rw [q] <;> decide
        try simp only [u2_I, uR_uR, uR_app, eq_self, Nat.reduceEqDiff, Nat.add_eq_left, Nat.left_eq_add, ↓reduceIte]
        refine r_if_eq (pc := 62) 77 dX12_readsDebt_62 (by decide) (by omega) (fun h62 => ?_) (fun h62 => ?_)
        · skip
          refine r_iconst (pc := 77) dX12_readsDebt_77 ?_
          refine t_iret (pc := 78) dX12_readsDebt_78 rfl rfl ?_
          refine Or.inr ⟨by omega, Or.inr ?_, ?_, rfl, rfl⟩
          · first
            | (have q := (hq3.resolve_left (fun q => absurd (q.2.2.2.1.symm.trans h74) (by decide)))
               rw [if_pos ⟨a1, a2, a3⟩, if_pos ⟨c1, hne, c2, c3⟩, if_neg q.1] at hA
               rw [hA, q.2.2]
               exact ⟨rfl, rfl, k2.1, k2.2.1⟩)
            | (have q := (hq2.resolve_left (fun q => absurd (q.2.2.2.1.symm.trans h62) (by decide)))
               rw [if_pos ⟨a1, a2, a3⟩, if_neg (fun z => q.1 ⟨z.1, z.2.2.1, z.2.2.2⟩)] at hA
               rw [hA, q.2.2]
               exact ⟨rfl, rfl, k1.1, k1.2.1⟩)
            | (rw [if_pos ⟨a1, a2, a3⟩, if_neg (fun z => z.2.1 h49)] at hA
               rw [hA]
               exact ⟨rfl, rfl, k1.1, k1.2.1⟩)
            | (have q := (hq1.resolve_left (fun q => absurd (q.2.2.2.1.symm.trans h28) (by decide)))
               rw [if_neg q.1] at hA
               rw [hA, q.2.2]
               exact ⟨rfl, rfl, k0.1, k0.2.1⟩)
          · intro x e1 e2 e3
            first
            | (have q := (hq3.resolve_left (fun q => absurd (q.2.2.2.1.symm.trans h74) (by decide)))
               rw [q.2.2, o2 _ e1 e3, o1 _ e1 e3, o0 _ e1 e3])
            | (have q := (hq2.resolve_left (fun q => absurd (q.2.2.2.1.symm.trans h62) (by decide)))
               rw [q.2.2, o1 _ e1 e3, o0 _ e1 e3])
            | rw [o1 _ e1 e3, o0 _ e1 e3]
            | (have q := (hq1.resolve_left (fun q => absurd (q.2.2.2.1.symm.trans h28) (by decide)))
               rw [q.2.2, o0 _ e1 e3])
        · skip
          have hq2a := hq2.resolve_right (fun q => h62 q.2.1)
          obtain ⟨c1, c2, c3, -, c5⟩ := hq2a
          rw [b1, hT2, hV2, u1] at c5
          obtain ⟨k2, u2', o2⟩ := KR_of c5
          have b2 : I2 (m + 9) = b := by rw [o2 _ (by omega) (by omega)]; exact b1
          have hne : v1 ≠ v0 := by first | exact h49 | exact absurd (ke2.mpr c1) h36
          refine r_aload_n (pc := 65) dX12_readsDebt_65 rfl ?_
          refine r_iconst (pc := 66) dX12_readsDebt_66 ?_
          refine r_iconst (pc := 67) dX12_readsDebt_67 ?_
          refine r_sipush (pc := 68) dX12_readsDebt_68 (by decide) ?_
          refine i_V3ig (pc := 71) okX12_takes inX12_takes selX12_takes q1422 dX12_readsDebt_71 (by assumption) rfl (by decide) (Nat.le_of_ble_eq_true rfl) (sX12_takes (k := 2) (n := n) (T := T2) (v := v2) (hT := k2) (hbb := by rw [b2]; exact hbb)) (fun r3 I3 P3 L3 hq3 => ?_)
          obtain ⟨hq3, rfl, rfl⟩ := hq3
          have hr3 : iR r3 := by rcases hq3 with ⟨-, -, -, q, -⟩ | ⟨-, q, -⟩ <;> rw [q] <;> decide
          try simp only [u2_I, uR_uR, uR_app, eq_self, Nat.reduceEqDiff, Nat.add_eq_left, Nat.left_eq_add, ↓reduceIte]
          refine r_if_ne (pc := 74) 79 dX12_readsDebt_74 (by decide) (by omega) (fun h74 => ?_) (fun h74 => ?_)
          · skip
            have hq3a := hq3.resolve_right (fun q => h74 q.2.1)
            obtain ⟨d1, d2, d3, -, d5⟩ := hq3a
            rw [b2, u2'] at d5
            obtain ⟨k3, u3, o3⟩ := KR_of d5
            have x3 : I3 (m + 10) = I (m + 10) := by rw [o3 _ (by omega) (by omega), o2 _ (by omega) (by omega), o1 _ (by omega) (by omega), o0 _ (by omega) (by omega)]
            have g0 : I3 (m + 11) 0 = v0 := by rw [u3, up_n _ _ (by decide), up_n _ _ (by decide), up_s]
            have g1 : I3 (m + 11) 1 = v1 := by rw [u3, up_n _ _ (by decide), up_s]
            have g2 : I3 (m + 11) 2 = v2 := by rw [u3, up_s]
            have hk3 : I3 (m + 10) 33 = (k : Int) := by rw [x3]; exact hk
            refine r_aload_n (pc := 79) dX12_readsDebt_79 rfl ?_
            refine r_getA (pc := 80) dX12_readsDebt_80 frX12_42 (by assumption) (by assumption) ?_
            refine r_aload_n (pc := 83) dX12_readsDebt_83 rfl ?_
            refine r_getA (pc := 84) dX12_readsDebt_84 frX12_45 (by assumption) (by assumption) ?_
            refine r_iconst (pc := 87) dX12_readsDebt_87 ?_
            refine r_iald (j := 0) (pc := 88) dX12_readsDebt_88 (by assumption) rfl (by omega) (by omega) ?_
            try simp only [u2_I, uR_uR, uR_app, eq_self, Nat.reduceEqDiff, Nat.add_eq_left, Nat.left_eq_add, ↓reduceIte]
            refine r_aload_n (pc := 89) dX12_readsDebt_89 rfl ?_
            refine r_getA (pc := 90) dX12_readsDebt_90 frX12_45 (by assumption) (by assumption) ?_
            refine r_iconst (pc := 93) dX12_readsDebt_93 ?_
            refine r_iald (j := 1) (pc := 94) dX12_readsDebt_94 (by assumption) rfl (by omega) (by omega) ?_
            try simp only [u2_I, uR_uR, uR_app, eq_self, Nat.reduceEqDiff, Nat.add_eq_left, Nat.left_eq_add, ↓reduceIte]
            refine r_aload_n (pc := 95) dX12_readsDebt_95 rfl ?_
            refine r_getA (pc := 96) dX12_readsDebt_96 frX12_45 (by assumption) (by assumption) ?_
            refine r_iconst (pc := 99) dX12_readsDebt_99 ?_
            refine r_iald (j := 2) (pc := 100) dX12_readsDebt_100 (by assumption) rfl (by omega) (by omega) ?_
            try simp only [u2_I, uR_uR, uR_app, eq_self, Nat.reduceEqDiff, Nat.add_eq_left, Nat.left_eq_add, ↓reduceIte]
            refine i_S4vx (pc := 101) okX12_layDebt staX12_layDebt q1289 dX12_readsDebt_101 (by decide) (Nat.le_of_ble_eq_true rfl) (sX12_layDebt (d := k) (hR := x3) (hd := hk)) ?_
            try simp only [u2_I, uR_uR, uR_app, eq_self, Nat.reduceEqDiff, Nat.add_eq_left, Nat.left_eq_add, ↓reduceIte]
            refine r_iconst (pc := 104) dX12_readsDebt_104 ?_
            refine t_iret (pc := 105) dX12_readsDebt_105 rfl rfl ?_
            refine Or.inr ⟨by omega, Or.inl ?_, ?_, rfl, rfl⟩
            · rw [if_pos ⟨a1, a2, a3⟩, if_pos ⟨c1, hne, c2, c3⟩, if_pos ⟨d1, d2, d3⟩] at hA
              rw [hA]
              refine ⟨rfl, rfl, ?_, ?_, ?_⟩
              · rw [uR_n _ _ (by omega), ← hb]; exact k3
              · rw [uR_s, g0, g1, g2]
                show _ = addN 4 (up (up (up (I (m + 11)) 0 v0) 1 v1) 2 v2) (I (m + 10))
                unfold addN
                rw [if_neg (by decide), if_neg (by decide), if_neg (by decide), if_neg (by decide), hkn]
                rw [show up (up (up (I (m + 11)) 0 v0) 1 v1) 2 v2 0 = v0 from rfl, show up (up (up (I (m + 11)) 0 v0) 1 v1) 2 v2 1 = v1 from rfl, show up (up (up (I (m + 11)) 0 v0) 1 v1) 2 v2 2 = v2 from rfl]
              · rw [uR_n _ _ (by omega)]; exact u3
            · intro x e1 e2 e3
              rw [uR_n _ _ e2, o3 _ e1 e3, o2 _ e1 e3, o1 _ e1 e3, o0 _ e1 e3]
          · skip
            refine r_iconst (pc := 77) dX12_readsDebt_77 ?_
            refine t_iret (pc := 78) dX12_readsDebt_78 rfl rfl ?_
            refine Or.inr ⟨by omega, Or.inr ?_, ?_, rfl, rfl⟩
            · first
              | (have q := (hq3.resolve_left (fun q => absurd (q.2.2.2.1.symm.trans h74) (by decide)))
                 rw [if_pos ⟨a1, a2, a3⟩, if_pos ⟨c1, hne, c2, c3⟩, if_neg q.1] at hA
                 rw [hA, q.2.2]
                 exact ⟨rfl, rfl, k2.1, k2.2.1⟩)
              | (have q := (hq2.resolve_left (fun q => absurd (q.2.2.2.1.symm.trans h62) (by decide)))
                 rw [if_pos ⟨a1, a2, a3⟩, if_neg (fun z => q.1 ⟨z.1, z.2.2.1, z.2.2.2⟩)] at hA
                 rw [hA, q.2.2]
                 exact ⟨rfl, rfl, k1.1, k1.2.1⟩)
              | (rw [if_pos ⟨a1, a2, a3⟩, if_neg (fun z => z.2.1 h49)] at hA
                 rw [hA]
                 exact ⟨rfl, rfl, k1.1, k1.2.1⟩)
              | (have q := (hq1.resolve_left (fun q => absurd (q.2.2.2.1.symm.trans h28) (by decide)))
                 rw [if_neg q.1] at hA
                 rw [hA, q.2.2]
                 exact ⟨rfl, rfl, k0.1, k0.2.1⟩)
            · intro x e1 e2 e3
              first
              | (have q := (hq3.resolve_left (fun q => absurd (q.2.2.2.1.symm.trans h74) (by decide)))
                 rw [q.2.2, o2 _ e1 e3, o1 _ e1 e3, o0 _ e1 e3])
              | (have q := (hq2.resolve_left (fun q => absurd (q.2.2.2.1.symm.trans h62) (by decide)))
                 rw [q.2.2, o1 _ e1 e3, o0 _ e1 e3])
              | rw [o1 _ e1 e3, o0 _ e1 e3]
              | (have q := (hq1.resolve_left (fun q => absurd (q.2.2.2.1.symm.trans h28) (by decide)))
                 rw [q.2.2, o0 _ e1 e3])
      · skip
        have cc : T1.2.2 = 3 := ke2.mp h36
        have hv1 := n1 cc
        refine r_aload_n (pc := 39) dX12_readsDebt_39 rfl ?_
        refine r_getI (pc := 40) dX12_readsDebt_40 frX12_260 (by assumption) ?_
        try simp only [u2_I, uR_uR, uR_app, eq_self, Nat.reduceEqDiff, Nat.add_eq_left, Nat.left_eq_add, ↓reduceIte]
        refine r_aload_n (pc := 43) dX12_readsDebt_43 rfl ?_
        refine r_getA (pc := 44) dX12_readsDebt_44 frX12_45 (by assumption) (by assumption) ?_
        refine r_iconst (pc := 47) dX12_readsDebt_47 ?_
        refine r_iald (j := 0) (pc := 48) dX12_readsDebt_48 (by assumption) (by omega) (by omega) (by omega) ?_
        try simp only [u2_I, uR_uR, uR_app, eq_self, Nat.reduceEqDiff, Nat.add_eq_left, Nat.left_eq_add, ↓reduceIte]
        rw [k1.2.2.2.2 cc, g1z]
        refine r_icmp_eq (pc := 49) 77 dX12_readsDebt_49 (by decide) (by omega) (by omega) (fun h49 => ?_) (fun h49 => ?_)
        · skip
          refine r_iconst (pc := 77) dX12_readsDebt_77 ?_
          refine t_iret (pc := 78) dX12_readsDebt_78 rfl rfl ?_
          refine Or.inr ⟨by omega, Or.inr ?_, ?_, rfl, rfl⟩
          · first
            | (have q := (hq3.resolve_left (fun q => absurd (q.2.2.2.1.symm.trans h74) (by decide)))
               rw [if_pos ⟨a1, a2, a3⟩, if_pos ⟨c1, hne, c2, c3⟩, if_neg q.1] at hA
               rw [hA, q.2.2]
               exact ⟨rfl, rfl, k2.1, k2.2.1⟩)
            | (have q := (hq2.resolve_left (fun q => absurd (q.2.2.2.1.symm.trans h62) (by decide)))
               rw [if_pos ⟨a1, a2, a3⟩, if_neg (fun z => q.1 ⟨z.1, z.2.2.1, z.2.2.2⟩)] at hA
               rw [hA, q.2.2]
               exact ⟨rfl, rfl, k1.1, k1.2.1⟩)
            | (rw [if_pos ⟨a1, a2, a3⟩, if_neg (fun z => z.2.1 h49)] at hA
               rw [hA]
               exact ⟨rfl, rfl, k1.1, k1.2.1⟩)
            | (have q := (hq1.resolve_left (fun q => absurd (q.2.2.2.1.symm.trans h28) (by decide)))
               rw [if_neg q.1] at hA
               rw [hA, q.2.2]
               exact ⟨rfl, rfl, k0.1, k0.2.1⟩)
          · intro x e1 e2 e3
            first
            | (have q := (hq3.resolve_left (fun q => absurd (q.2.2.2.1.symm.trans h74) (by decide)))
               rw [q.2.2, o2 _ e1 e3, o1 _ e1 e3, o0 _ e1 e3])
            | (have q := (hq2.resolve_left (fun q => absurd (q.2.2.2.1.symm.trans h62) (by decide)))
               rw [q.2.2, o1 _ e1 e3, o0 _ e1 e3])
            | rw [o1 _ e1 e3, o0 _ e1 e3]
            | (have q := (hq1.resolve_left (fun q => absurd (q.2.2.2.1.symm.trans h28) (by decide)))
               rw [q.2.2, o0 _ e1 e3])
        · skip
          refine r_aload_n (pc := 52) dX12_readsDebt_52 rfl ?_
          refine r_iconst (pc := 53) dX12_readsDebt_53 ?_
          refine r_iconst (pc := 54) dX12_readsDebt_54 ?_
          refine r_aload_n (pc := 55) dX12_readsDebt_55 rfl ?_
          refine i_V0ix (pc := 56) okX12_lastFamily inX12_lastFamily selX12_lastFamily q1434 dX12_readsDebt_56 (by assumption) rfl (by decide) (Nat.le_of_ble_eq_true rfl) (sX12_lastFamily) ?_
          try simp only [u2_I, uR_uR, uR_app, eq_self, Nat.reduceEqDiff, Nat.add_eq_left, Nat.left_eq_add, ↓reduceIte]
          rw [hs1]
          refine i_V3ig (pc := 59) okX12_takes inX12_takes selX12_takes q1422 dX12_readsDebt_59 (by assumption) rfl (by decide) (Nat.le_of_ble_eq_true rfl) (sX12_takes (k := 1) (n := n) (T := T1) (v := v1) (hT := k1) (hbb := by rw [b1]; exact hbb)) (fun r2 I2 P2 L2 hq2 => ?_)
          obtain ⟨hq2, rfl, rfl⟩ := hq2
          have hr2 : iR r2 := by rcases hq2 with ⟨-, -, -, q, -⟩ | ⟨-, q, -⟩ <;> rw [q] <;> decide
          try simp only [u2_I, uR_uR, uR_app, eq_self, Nat.reduceEqDiff, Nat.add_eq_left, Nat.left_eq_add, ↓reduceIte]
          refine r_if_eq (pc := 62) 77 dX12_readsDebt_62 (by decide) (by omega) (fun h62 => ?_) (fun h62 => ?_)
          · skip
            refine r_iconst (pc := 77) dX12_readsDebt_77 ?_
            refine t_iret (pc := 78) dX12_readsDebt_78 rfl rfl ?_
            refine Or.inr ⟨by omega, Or.inr ?_, ?_, rfl, rfl⟩
            · first
              | (have q := (hq3.resolve_left (fun q => absurd (q.2.2.2.1.symm.trans h74) (by decide)))
                 rw [if_pos ⟨a1, a2, a3⟩, if_pos ⟨c1, hne, c2, c3⟩, if_neg q.1] at hA
                 rw [hA, q.2.2]
                 exact ⟨rfl, rfl, k2.1, k2.2.1⟩)
              | (have q := (hq2.resolve_left (fun q => absurd (q.2.2.2.1.symm.trans h62) (by decide)))
                 rw [if_pos ⟨a1, a2, a3⟩, if_neg (fun z => q.1 ⟨z.1, z.2.2.1, z.2.2.2⟩)] at hA
                 rw [hA, q.2.2]
                 exact ⟨rfl, rfl, k1.1, k1.2.1⟩)
              | (rw [if_pos ⟨a1, a2, a3⟩, if_neg (fun z => z.2.1 h49)] at hA
                 rw [hA]
                 exact ⟨rfl, rfl, k1.1, k1.2.1⟩)
              | (have q := (hq1.resolve_left (fun q => absurd (q.2.2.2.1.symm.trans h28) (by decide)))
                 rw [if_neg q.1] at hA
                 rw [hA, q.2.2]
                 exact ⟨rfl, rfl, k0.1, k0.2.1⟩)
            · intro x e1 e2 e3
              first
              | (have q := (hq3.resolve_left (fun q => absurd (q.2.2.2.1.symm.trans h74) (by decide)))
                 rw [q.2.2, o2 _ e1 e3, o1 _ e1 e3, o0 _ e1 e3])
              | (have q := (hq2.resolve_left (fun q => absurd (q.2.2.2.1.symm.trans h62) (by decide)))
                 rw [q.2.2, o1 _ e1 e3, o0 _ e1 e3])
              | rw [o1 _ e1 e3, o0 _ e1 e3]
              | (have q := (hq1.resolve_left (fun q => absurd (q.2.2.2.1.symm.trans h28) (by decide)))
                 rw [q.2.2, o0 _ e1 e3])
          · skip
            have hq2a := hq2.resolve_right (fun q => h62 q.2.1)
            obtain ⟨c1, c2, c3, -, c5⟩ := hq2a
            rw [b1, hT2, hV2, u1] at c5
            obtain ⟨k2, u2', o2⟩ := KR_of c5
            have b2 : I2 (m + 9) = b := by rw [o2 _ (by omega) (by omega)]; exact b1
            have hne : v1 ≠ v0 := by first | exact h49 | exact absurd (ke2.mpr c1) h36
            refine r_aload_n (pc := 65) dX12_readsDebt_65 rfl ?_
            refine r_iconst (pc := 66) dX12_readsDebt_66 ?_
            refine r_iconst (pc := 67) dX12_readsDebt_67 ?_
            refine r_sipush (pc := 68) dX12_readsDebt_68 (by decide) ?_
            refine i_V3ig (pc := 71) okX12_takes inX12_takes selX12_takes q1422 dX12_readsDebt_71 (by assumption) rfl (by decide) (Nat.le_of_ble_eq_true rfl) (sX12_takes (k := 2) (n := n) (T := T2) (v := v2) (hT := k2) (hbb := by rw [b2]; exact hbb)) (fun r3 I3 P3 L3 hq3 => ?_)
            obtain ⟨hq3, rfl, rfl⟩ := hq3
            have hr3 : iR r3 := by rcases hq3 with ⟨-, -, -, q, -⟩ | ⟨-, q, -⟩ <;> rw [q] <;> decide
            try simp only [u2_I, uR_uR, uR_app, eq_self, Nat.reduceEqDiff, Nat.add_eq_left, Nat.left_eq_add, ↓reduceIte]
            refine r_if_ne (pc := 74) 79 dX12_readsDebt_74 (by decide) (by omega) (fun h74 => ?_) (fun h74 => ?_)
            · skip
              have hq3a := hq3.resolve_right (fun q => h74 q.2.1)
              obtain ⟨d1, d2, d3, -, d5⟩ := hq3a
              rw [b2, u2'] at d5
              obtain ⟨k3, u3, o3⟩ := KR_of d5
              have x3 : I3 (m + 10) = I (m + 10) := by rw [o3 _ (by omega) (by omega), o2 _ (by omega) (by omega), o1 _ (by omega) (by omega), o0 _ (by omega) (by omega)]
              have g0 : I3 (m + 11) 0 = v0 := by rw [u3, up_n _ _ (by decide), up_n _ _ (by decide), up_s]
              have g1 : I3 (m + 11) 1 = v1 := by rw [u3, up_n _ _ (by decide), up_s]
              have g2 : I3 (m + 11) 2 = v2 := by rw [u3, up_s]
              have hk3 : I3 (m + 10) 33 = (k : Int) := by rw [x3]; exact hk
              refine r_aload_n (pc := 79) dX12_readsDebt_79 rfl ?_
              refine r_getA (pc := 80) dX12_readsDebt_80 frX12_42 (by assumption) (by assumption) ?_
              refine r_aload_n (pc := 83) dX12_readsDebt_83 rfl ?_
              refine r_getA (pc := 84) dX12_readsDebt_84 frX12_45 (by assumption) (by assumption) ?_
              refine r_iconst (pc := 87) dX12_readsDebt_87 ?_
              refine r_iald (j := 0) (pc := 88) dX12_readsDebt_88 (by assumption) rfl (by omega) (by omega) ?_
              try simp only [u2_I, uR_uR, uR_app, eq_self, Nat.reduceEqDiff, Nat.add_eq_left, Nat.left_eq_add, ↓reduceIte]
              refine r_aload_n (pc := 89) dX12_readsDebt_89 rfl ?_
              refine r_getA (pc := 90) dX12_readsDebt_90 frX12_45 (by assumption) (by assumption) ?_
              refine r_iconst (pc := 93) dX12_readsDebt_93 ?_
              refine r_iald (j := 1) (pc := 94) dX12_readsDebt_94 (by assumption) rfl (by omega) (by omega) ?_
              try simp only [u2_I, uR_uR, uR_app, eq_self, Nat.reduceEqDiff, Nat.add_eq_left, Nat.left_eq_add, ↓reduceIte]
              refine r_aload_n (pc := 95) dX12_readsDebt_95 rfl ?_
              refine r_getA (pc := 96) dX12_readsDebt_96 frX12_45 (by assumption) (by assumption) ?_
              refine r_iconst (pc := 99) dX12_readsDebt_99 ?_
              refine r_iald (j := 2) (pc := 100) dX12_readsDebt_100 (by assumption) rfl (by omega) (by omega) ?_
              try simp only [u2_I, uR_uR, uR_app, eq_self, Nat.reduceEqDiff, Nat.add_eq_left, Nat.left_eq_add, ↓reduceIte]
              refine i_S4vx (pc := 101) okX12_layDebt staX12_layDebt q1289 dX12_readsDebt_101 (by decide) (Nat.le_of_ble_eq_true rfl) (sX12_layDebt (d := k) (hR := x3) (hd := hk)) ?_
              try simp only [u2_I, uR_uR, uR_app, eq_self, Nat.reduceEqDiff, Nat.add_eq_left, Nat.left_eq_add, ↓reduceIte]
              refine r_iconst (pc := 104) dX12_readsDebt_104 ?_
              refine t_iret (pc := 105) dX12_readsDebt_105 rfl rfl ?_
              refine Or.inr ⟨by omega, Or.inl ?_, ?_, rfl, rfl⟩
              · rw [if_pos ⟨a1, a2, a3⟩, if_pos ⟨c1, hne, c2, c3⟩, if_pos ⟨d1, d2, d3⟩] at hA
                rw [hA]
                refine ⟨rfl, rfl, ?_, ?_, ?_⟩
                · rw [uR_n _ _ (by omega), ← hb]; exact k3
                · rw [uR_s, g0, g1, g2]
                  show _ = addN 4 (up (up (up (I (m + 11)) 0 v0) 1 v1) 2 v2) (I (m + 10))
                  unfold addN
                  rw [if_neg (by decide), if_neg (by decide), if_neg (by decide), if_neg (by decide), hkn]
                  rw [show up (up (up (I (m + 11)) 0 v0) 1 v1) 2 v2 0 = v0 from rfl, show up (up (up (I (m + 11)) 0 v0) 1 v1) 2 v2 1 = v1 from rfl, show up (up (up (I (m + 11)) 0 v0) 1 v1) 2 v2 2 = v2 from rfl]
                · rw [uR_n _ _ (by omega)]; exact u3
              · intro x e1 e2 e3
                rw [uR_n _ _ e2, o3 _ e1 e3, o2 _ e1 e3, o1 _ e1 e3, o0 _ e1 e3]
            · skip
              refine r_iconst (pc := 77) dX12_readsDebt_77 ?_
              refine t_iret (pc := 78) dX12_readsDebt_78 rfl rfl ?_
              refine Or.inr ⟨by omega, Or.inr ?_, ?_, rfl, rfl⟩
              · first
                | (have q := (hq3.resolve_left (fun q => absurd (q.2.2.2.1.symm.trans h74) (by decide)))
                   rw [if_pos ⟨a1, a2, a3⟩, if_pos ⟨c1, hne, c2, c3⟩, if_neg q.1] at hA
                   rw [hA, q.2.2]
                   exact ⟨rfl, rfl, k2.1, k2.2.1⟩)
                | (have q := (hq2.resolve_left (fun q => absurd (q.2.2.2.1.symm.trans h62) (by decide)))
                   rw [if_pos ⟨a1, a2, a3⟩, if_neg (fun z => q.1 ⟨z.1, z.2.2.1, z.2.2.2⟩)] at hA
                   rw [hA, q.2.2]
                   exact ⟨rfl, rfl, k1.1, k1.2.1⟩)
                | (rw [if_pos ⟨a1, a2, a3⟩, if_neg (fun z => z.2.1 h49)] at hA
                   rw [hA]
                   exact ⟨rfl, rfl, k1.1, k1.2.1⟩)
                | (have q := (hq1.resolve_left (fun q => absurd (q.2.2.2.1.symm.trans h28) (by decide)))
                   rw [if_neg q.1] at hA
                   rw [hA, q.2.2]
                   exact ⟨rfl, rfl, k0.1, k0.2.1⟩)
              · intro x e1 e2 e3
                first
                | (have q := (hq3.resolve_left (fun q => absurd (q.2.2.2.1.symm.trans h74) (by decide)))
                   rw [q.2.2, o2 _ e1 e3, o1 _ e1 e3, o0 _ e1 e3])
                | (have q := (hq2.resolve_left (fun q => absurd (q.2.2.2.1.symm.trans h62) (by decide)))
                   rw [q.2.2, o1 _ e1 e3, o0 _ e1 e3])
                | rw [o1 _ e1 e3, o0 _ e1 e3]
                | (have q := (hq1.resolve_left (fun q => absurd (q.2.2.2.1.symm.trans h28) (by decide)))
                   rw [q.2.2, o0 _ e1 e3])
  · skip
    refine r_iconst (pc := 12) dX12_readsDebt_12 ?_
    refine t_iret (pc := 13) dX12_readsDebt_13 rfl rfl ?_
    exact Or.inl ⟨by omega, rfl, rfl, rfl, rfl⟩
end REF14

