/-! the reference: an item read -/
section REF16
variable {G : WG} {C : CF} {I : MI} {P : MP} {L : ML} {m n : Nat} {T : Nat × Nat × Int} {v : Int}
theorem QAr_w {m n : Nat} {it : Int} {A : Bool × Nat × Nat × (Nat → Int)} {I : MI} {P : MP} {L : ML} {r : Int} {I1 : MI} {P1 : MP} {L1 : ML} (h : QAr m n it A I P L r I1 P1 L1) : (r = 0 ∨ r = 1) := by
  rcases h.1 with q | q
  · exact Or.inr q.2.1
  · exact Or.inl q.2.1
theorem sX12_readsItem {s k : Nat} (hm : RfL G C P m := by assumption) (hT : TSf n T v (I m) := by assumption) (h150 : n ≤ 150 := by omega) (hbb : ∀ j, j < 150 → 0 ≤ I (m + 9) j ∧ I (m + 9) j ≤ 127 := by assumption) (hTn : T.1 ≤ T.2.1 ∧ T.2.1 ≤ n := by omega) (hso : 0 ≤ T.2.2 ∧ T.2.2 ≤ 4 := by omega) (hs : I (m + 10) 6 = (s : Int) := by assumption) (hs6 : s ≤ 6 := by omega) (hk : I (m + 10) 33 = (k : Int) := by assumption) (hk8 : k ≤ 8 := by omega) : SX12_readsItem G [.ref m] C I P L (NI C (QAr m n (itemB (I (m + 9)) T.1 T.2.1 T.2.2) (argN (I (m + 9)) n T (I (m + 10)) (I (m + 11))) I P L)) := by
  obtain ⟨hBm, hKm, hK1, hK2, hK3, hK4, hK5, hK6, hK7, hK8, hK9, hK10, hK11, hP0, hP1, hP2, hP3, hP6, hP7, hP8, hP9, hP10, hP16, hP17⟩ := id hm
  obtain ⟨b, hb⟩ : ∃ b, b = I (m + 9) := ⟨_, rfl⟩
  rw [← hb] at hbb ⊢
  have hit := itemB_in b T.1 T.2.1 T.2.2
  have t0 := tok_in b (n := n) (a := T.2.1) hTn.2
  have t1 := tok_in b (n := n) (a := (tok b n T.2.1).2.1) t0.2.2.2.1
  have n0 := fun h => tok_num (b := b) (n := n) (a := T.2.1) h
  have n1 := fun h => tok_num (b := b) (n := n) (a := (tok b n T.2.1).2.1) h
  have hN1 : itemB b T.1 T.2.1 T.2.2 = 1 → argN b n T (I (m + 10)) (I (m + 11)) = _ := fun h => (argN_1 h).trans (arg_st b n 1 (I (m + 10) 6) 1 0 T.2.1 (I (m + 11)))
  have hN3 : itemB b T.1 T.2.1 T.2.2 = 3 → argN b n T (I (m + 10)) (I (m + 11)) = _ := fun h => (argN_3 h).trans (arg_st b n 3 (I (m + 10) 6) 1 0 T.2.1 (I (m + 11)))
  have hN2 : itemB b T.1 T.2.1 T.2.2 = 2 → s < 6 → argN b n T (I (m + 10)) (I (m + 11)) = argS b n 2 (I (m + 10) 6) 3 0 T.2.1 (I (m + 11)) := fun h h6 => argN_2 h (by omega)
  have hN4 : itemB b T.1 T.2.1 T.2.2 = 4 → k < 8 → argN b n T (I (m + 10)) (I (m + 11)) = argS b n 4 (s : Int) 3 0 T.2.1 (I (m + 11)) := fun h h6 => (argN_4 h (by omega)).trans (by rw [hs])
  have hNo : (itemB b T.1 T.2.1 T.2.2 = -1 ∨ itemB b T.1 T.2.1 T.2.2 = 0 ∨ (itemB b T.1 T.2.1 T.2.2 = 2 ∧ s = 6) ∨ (itemB b T.1 T.2.1 T.2.2 = 4 ∧ k = 8)) → argN b n T (I (m + 10)) (I (m + 11)) = (false, T.1, T.2.1, I (m + 11)) := fun h => argN_no (by omega)
  rw [hs] at hN1 hN3
  rw [arg_st, arg_0] at hN1 hN3
  simp only [Nat.zero_add, Nat.reduceAdd] at hN1 hN3
  simp only [ft10, ft11] at hN1
  simp only [ft30, ft31] at hN3
  have q1 := nm1 (b := b) (T := T)
  have q2 := nm2 (b := b) (T := T)
  have q3 := nm3 (b := b) (T := T)
  have q4 := nm4 (b := b) (T := T)
  generalize argN b n T (I (m + 10)) (I (m + 11)) = A at hN1 hN2 hN3 hN4 hNo ⊢
  generalize itemB b T.1 T.2.1 T.2.2 = it at hit hN1 hN2 hN3 hN4 hNo q1 q2 q3 q4 ⊢
  generalize hT0 : tok b n T.2.1 = T0 at t0 t1 n0 n1 hN1 hN3
  generalize hT1 : tok b n T0.2.1 = T1 at t1 n1 hN1 hN3
  generalize hV0 : tokV b n T.2.1 = v0 at n0 hN1 hN3
  generalize hV1 : tokV b n T0.2.1 = v1 at n1 hN1 hN3
  have nix : ∀ _u : Unit, A = (false, T.1, T.2.1, I (m + 11)) → ∀ (I1 : MI) (P1 : MP) (L1 : ML), I1 = I → P = P1 → L = L1 → QAr m n it A I P L 0 I1 P1 L1 := by
    intro _ hA I1 P1 L1 h1 h2 h3
    subst h1
    rw [hA]
    exact ⟨Or.inr ⟨rfl, rfl, hT.1, hT.2.1⟩, fun _ _ _ _ => rfl, h2, h3⟩
  refine en_I (by decide +kernel) (Nat.le_of_ble_eq_true rfl) ?_
  change Wd _ _ _ _ _ _ _ _ 0 [some _, none] [] _ _ _ _
  have st : ∀ (I1 : MI) (P1 : MP) (L1 : ML) (y x w : Int) (j : Nat), RfL G C P1 m → x = (j : Int) → j < 116 → iR y → (w = 0 ∨ w = 1) → QAr m n it A I P L w (uR I1 (m + 10) (up (I1 (m + 10)) j y)) P1 L1 → Wd G yX12_readsItem cX12_readsItem 2 (some .boolean) 6 (C.2.1 + 0, C.2.2 + 0) (NI C (QAr m n it A I P L)) 84 [some (.ref m), some (.int (zI w))] [.int (zI y), .int (zI x), .ref (m + 10)] C I1 P1 L1 := by
    intro I1 P1 L1 y x w j hm1 hx hj hy hw hQ
    refine r_iast (j := j) (pc := 84) dX12_readsItem_84 (by assumption) (by omega) (by omega) (by omega) (by omega) ?_
    try simp only [u2_I, uR_uR, uR_app, eq_self, Nat.reduceEqDiff, Nat.add_eq_left, Nat.left_eq_add, ↓reduceIte]
    refine r_iload_n (pc := 85) dX12_readsItem_85 rfl ?_
    refine t_iret (pc := 86) dX12_readsItem_86 rfl (nar_z hw) ?_
    exact hQ
  refine r_aload_n (pc := 0) dX12_readsItem_0 rfl ?_
  refine r_bipush (pc := 1) dX12_readsItem_1 (by decide) ?_
  refine r_bipush (pc := 3) dX12_readsItem_3 (by decide) ?_
  refine r_bipush (pc := 5) dX12_readsItem_5 (by decide) ?_
  refine r_bipush (pc := 7) dX12_readsItem_7 (by decide) ?_
  refine r_bipush (pc := 9) dX12_readsItem_9 (by decide) ?_
  refine r_iconst (pc := 11) dX12_readsItem_11 ?_
  refine i_V6ix (pc := 12) okX12_isName inX12_isName selX12_isName q1414 dX12_readsItem_12 (by assumption) rfl (by decide) (Nat.le_of_ble_eq_true rfl) (sX12_isName (T := T) (v := v) (hbb := by rw [← hb]; exact hbb)) ?_
  rw [← hb]
  refine r_if_eq (pc := 15) 87 dX12_readsItem_15 (by decide) (by first | omega | (split <;> decide)) (fun h15 => ?_) (fun h15 => ?_)
  · skip
    have hi1 : ¬ it = 1 := fun z => wf h15 (q1.mpr z)
    refine r_aload_n (pc := 87) dX12_readsItem_87 rfl ?_
    refine r_bipush (pc := 88) dX12_readsItem_88 (by decide) ?_
    refine r_bipush (pc := 90) dX12_readsItem_90 (by decide) ?_
    refine r_bipush (pc := 92) dX12_readsItem_92 (by decide) ?_
    refine r_bipush (pc := 94) dX12_readsItem_94 (by decide) ?_
    refine r_bipush (pc := 96) dX12_readsItem_96 (by decide) ?_
    refine r_bipush (pc := 98) dX12_readsItem_98 (by decide) ?_
    refine i_V6ix (pc := 100) okX12_isName inX12_isName selX12_isName q1414 dX12_readsItem_100 (by assumption) rfl (by decide) (Nat.le_of_ble_eq_true rfl) (sX12_isName (T := T) (v := v) (hbb := by rw [← hb]; exact hbb)) ?_
    rw [← hb]
    refine r_if_eq (pc := 103) 111 dX12_readsItem_103 (by decide) (by first | omega | (split <;> decide)) (fun h103 => ?_) (fun h103 => ?_)
    · skip
      have hi2 : ¬ it = 2 := fun z => wf h103 (q2.mpr z)
      refine r_aload_n (pc := 111) dX12_readsItem_111 rfl ?_
      refine r_bipush (pc := 112) dX12_readsItem_112 (by decide) ?_
      refine r_bipush (pc := 114) dX12_readsItem_114 (by decide) ?_
      refine r_bipush (pc := 116) dX12_readsItem_116 (by decide) ?_
      refine r_iconst (pc := 118) dX12_readsItem_118 ?_
      refine r_iconst (pc := 119) dX12_readsItem_119 ?_
      refine r_iconst (pc := 120) dX12_readsItem_120 ?_
      refine i_V6ix (pc := 121) okX12_isName inX12_isName selX12_isName q1414 dX12_readsItem_121 (by assumption) rfl (by decide) (Nat.le_of_ble_eq_true rfl) (sX12_isName (T := T) (v := v) (hbb := by rw [← hb]; exact hbb)) ?_
      rw [← hb]
      refine r_if_eq (pc := 124) 190 dX12_readsItem_124 (by decide) (by first | omega | (split <;> decide)) (fun h124 => ?_) (fun h124 => ?_)
      · skip
        have hi3 : ¬ it = 3 := fun z => wf h124 (q3.mpr z)
        refine r_aload_n (pc := 190) dX12_readsItem_190 rfl ?_
        refine r_bipush (pc := 191) dX12_readsItem_191 (by decide) ?_
        refine r_bipush (pc := 193) dX12_readsItem_193 (by decide) ?_
        refine r_bipush (pc := 195) dX12_readsItem_195 (by decide) ?_
        refine r_bipush (pc := 197) dX12_readsItem_197 (by decide) ?_
        refine r_iconst (pc := 199) dX12_readsItem_199 ?_
        refine r_iconst (pc := 200) dX12_readsItem_200 ?_
        refine i_V6ix (pc := 201) okX12_isName inX12_isName selX12_isName q1414 dX12_readsItem_201 (by assumption) rfl (by decide) (Nat.le_of_ble_eq_true rfl) (sX12_isName (T := T) (v := v) (hbb := by rw [← hb]; exact hbb)) ?_
        rw [← hb]
        refine r_if_eq (pc := 204) 218 dX12_readsItem_204 (by decide) (by first | omega | (split <;> decide)) (fun h204 => ?_) (fun h204 => ?_)
        · skip
          have hi4 : ¬ it = 4 := fun z => wf h204 (q4.mpr z)
          refine r_iconst (pc := 218) dX12_readsItem_218 ?_
          refine t_iret (pc := 219) dX12_readsItem_219 rfl rfl ?_
          exact nix () (hNo (by omega)) _ _ _ rfl rfl rfl
        · skip
          have hi4 : it = 4 := q4.mp (wt h204)
          refine r_aload_n (pc := 207) dX12_readsItem_207 rfl ?_
          refine i_V0ig (pc := 208) okX12_readsDebt inX12_readsDebt selX12_readsDebt q1438 dX12_readsItem_208 (by assumption) rfl (by decide) (Nat.le_of_ble_eq_true rfl) (sX12_readsDebt (n := n) (T := T) (v := v) (s := s) (k := k) (hbb := by rw [← hb]; exact hbb)) (fun r5 I5 P5 L5 hq5 => ?_)
          rw [← hb] at hq5
          have hr5 : r5 = 0 ∨ r5 = 1 := by
            rcases hq5 with ⟨z1, z2, z3, z4, z5⟩ | ⟨z1, z2⟩
            · exact Or.inl z2
            · exact QAr_w z2
          have hr5' : iR r5 := by rcases hr5 with q | q <;> rw [q] <;> decide
          refine r_if_eq (pc := 211) 218 dX12_readsItem_211 (by decide) (by first | omega | (split <;> decide)) (fun h211 => ?_) (fun h211 => ?_)
          · skip
            refine r_iconst (pc := 218) dX12_readsItem_218 ?_
            refine t_iret (pc := 219) dX12_readsItem_219 rfl rfl ?_
            rcases hq5 with ⟨z1, z2, z3, z4, z5⟩ | ⟨z1, z2⟩
            · first | (exact absurd z2 h211) | exact nix () (hNo (by omega)) _ _ _ z3 z4 z5
            · rw [hN4 hi4 z1, hi4]
              first
              | (rw [h211] at z2; exact z2)
              | (rw [hr5.resolve_left h211] at z2; exact z2)
          · skip
            refine r_iconst (pc := 214) dX12_readsItem_214 ?_
            refine r_goto (pc := 215) 219 dX12_readsItem_215 (by decide) ?_
            refine t_iret (pc := 219) dX12_readsItem_219 rfl rfl ?_
            rcases hq5 with ⟨z1, z2, z3, z4, z5⟩ | ⟨z1, z2⟩
            · first | (exact absurd z2 h211) | exact nix () (hNo (by omega)) _ _ _ z3 z4 z5
            · rw [hN4 hi4 z1, hi4]
              first
              | (rw [h211] at z2; exact z2)
              | (rw [hr5.resolve_left h211] at z2; exact z2)
      · skip
        have hi3 : it = 3 := q3.mp (wt h124)
        have hA := hN3 hi3
        refine r_aload_n (pc := 127) dX12_readsItem_127 rfl ?_
        refine i_V0vg (pc := 128) okX12_goOn inX12_goOn selX12_goOn q1418 dX12_readsItem_128 (by assumption) rfl (by decide) (Nat.le_of_ble_eq_true rfl) (sX12_goOn (n := n) (T := T) (v := v) (hbb := by rw [← hb]; exact hbb)) (fun I0 P0 L0 hq0 => ?_)
        rw [← hb, hT0, hV0] at hq0
        obtain ⟨⟨k0, u0, o0⟩, rfl, rfl⟩ := KR_ofK hq0
        have b0 : I0 (m + 9) = b := by rw [o0 _ (by omega) (by omega)]; exact hb.symm
        have hs0 : I0 (m + 10) 6 = (s : Int) := by rw [o0 _ (by omega) (by omega)]; exact hs
        try simp only [u2_I, uR_uR, uR_app, eq_self, Nat.reduceEqDiff, Nat.add_eq_left, Nat.left_eq_add, ↓reduceIte]
        refine r_aload_n (pc := 131) dX12_readsItem_131 rfl ?_
        refine r_iconst (pc := 132) dX12_readsItem_132 ?_
        refine r_iconst (pc := 133) dX12_readsItem_133 ?_
        refine r_aload_n (pc := 134) dX12_readsItem_134 rfl ?_
        refine i_V0ix (pc := 135) okX12_lastFamily inX12_lastFamily selX12_lastFamily q1434 dX12_readsItem_135 (by assumption) rfl (by decide) (Nat.le_of_ble_eq_true rfl) (sX12_lastFamily) ?_
        try simp only [u2_I, uR_uR, uR_app, eq_self, Nat.reduceEqDiff, Nat.add_eq_left, Nat.left_eq_add, ↓reduceIte]
        rw [hs0]
        refine i_V3ig (pc := 138) okX12_takes inX12_takes selX12_takes q1422 dX12_readsItem_138 (by assumption) rfl (by decide) (Nat.le_of_ble_eq_true rfl) (sX12_takes (k := 0) (n := n) (T := T0) (v := v0) (hT := k0) (hbb := by rw [b0]; exact hbb)) (fun r1 I1 P1 L1 hq1 => ?_)
        obtain ⟨hq1, rfl, rfl⟩ := hq1
        have hr1 : iR r1 := by rcases hq1 with ⟨-, -, -, q, -⟩ | ⟨-, q, -⟩ <;> rw [q] <;> decide
        try simp only [u2_I, uR_uR, uR_app, eq_self, Nat.reduceEqDiff, Nat.add_eq_left, Nat.left_eq_add, ↓reduceIte]
        refine r_if_eq (pc := 141) 158 dX12_readsItem_141 (by decide) (by first | omega | (split <;> decide)) (fun h141 => ?_) (fun h141 => ?_)
        · skip
          refine r_iconst (pc := 158) dX12_readsItem_158 ?_
          refine r_istore_n (pc := 159) dX12_readsItem_159 (by decide) ?_
          refine r_iload_n (pc := 160) dX12_readsItem_160 rfl ?_
          refine r_if_eq (pc := 161) 188 dX12_readsItem_161 (by decide) (by first | omega | (split <;> decide)) (fun h161 => ?_) (fun h161 => ?_)
          · skip
            refine r_iload_n (pc := 188) dX12_readsItem_188 rfl ?_
            refine t_iret (pc := 189) dX12_readsItem_189 rfl rfl ?_
            first
            | (rw [if_pos ⟨a1, a2, a3⟩, if_pos ⟨c1, c2, c3⟩] at hA
               rw [hA]
               refine ⟨Or.inl ⟨rfl, rfl, ?_, ?_, ?_⟩, ?_, rfl, rfl⟩
               · rw [uR_n _ _ (by omega), ← hb]; exact k2
               · rw [uR_s, x2, hi3]; rfl
               · rw [uR_n _ _ (by omega)]; exact u2'
               · intro x e1 e2 e3
                 rw [uR_n _ _ e2, o2 _ e1 e3, o1 _ e1 e3, o0 _ e1 e3])
            | (have q := (hq2.resolve_left (fun q => absurd (q.2.2.2.1.symm.trans h151) (by decide)))
               rw [if_pos ⟨a1, a2, a3⟩, if_neg q.1] at hA
               rw [hA, q.2.2]
               exact ⟨Or.inr ⟨rfl, rfl, k1.1, k1.2.1⟩, fun x e1 e2 e3 => (o1 _ e1 e3).trans (o0 _ e1 e3), rfl, rfl⟩)
            | (have q := (hq1.resolve_left (fun q => absurd (q.2.2.2.1.symm.trans h141) (by decide)))
               rw [if_neg q.1] at hA
               rw [hA, q.2.2]
               exact ⟨Or.inr ⟨rfl, rfl, k0.1, k0.2.1⟩, fun x e1 e2 e3 => o0 _ e1 e3, rfl, rfl⟩)
          · exact absurd h161 (by decide)
        · skip
          have hq1a := hq1.resolve_right (fun q => h141 q.2.1)
          obtain ⟨a1, a2, a3, -, a5⟩ := hq1a
          rw [b0, hT1, hV1, u0] at a5
          obtain ⟨k1, u1, o1⟩ := KR_of a5
          have b1 : I1 (m + 9) = b := by rw [o1 _ (by omega) (by omega)]; exact b0
          refine r_aload_n (pc := 144) dX12_readsItem_144 rfl ?_
          refine r_iconst (pc := 145) dX12_readsItem_145 ?_
          refine r_iconst (pc := 146) dX12_readsItem_146 ?_
          refine r_iconst (pc := 147) dX12_readsItem_147 ?_
          refine i_V3ig (pc := 148) okX12_takes inX12_takes selX12_takes q1422 dX12_readsItem_148 (by assumption) rfl (by decide) (Nat.le_of_ble_eq_true rfl) (sX12_takes (k := 1) (n := n) (T := T1) (v := v1) (hT := k1) (hbb := by rw [b1]; exact hbb)) (fun r2 I2 P2 L2 hq2 => ?_)
          obtain ⟨hq2, rfl, rfl⟩ := hq2
          have hr2 : iR r2 := by rcases hq2 with ⟨-, -, -, q, -⟩ | ⟨-, q, -⟩ <;> rw [q] <;> decide
          try simp only [u2_I, uR_uR, uR_app, eq_self, Nat.reduceEqDiff, Nat.add_eq_left, Nat.left_eq_add, ↓reduceIte]
          refine r_if_eq (pc := 151) 158 dX12_readsItem_151 (by decide) (by first | omega | (split <;> decide)) (fun h151 => ?_) (fun h151 => ?_)
          · skip
            refine r_iconst (pc := 158) dX12_readsItem_158 ?_
            refine r_istore_n (pc := 159) dX12_readsItem_159 (by decide) ?_
            refine r_iload_n (pc := 160) dX12_readsItem_160 rfl ?_
            refine r_if_eq (pc := 161) 188 dX12_readsItem_161 (by decide) (by first | omega | (split <;> decide)) (fun h161 => ?_) (fun h161 => ?_)
            · skip
              refine r_iload_n (pc := 188) dX12_readsItem_188 rfl ?_
              refine t_iret (pc := 189) dX12_readsItem_189 rfl rfl ?_
              first
              | (rw [if_pos ⟨a1, a2, a3⟩, if_pos ⟨c1, c2, c3⟩] at hA
                 rw [hA]
                 refine ⟨Or.inl ⟨rfl, rfl, ?_, ?_, ?_⟩, ?_, rfl, rfl⟩
                 · rw [uR_n _ _ (by omega), ← hb]; exact k2
                 · rw [uR_s, x2, hi3]; rfl
                 · rw [uR_n _ _ (by omega)]; exact u2'
                 · intro x e1 e2 e3
                   rw [uR_n _ _ e2, o2 _ e1 e3, o1 _ e1 e3, o0 _ e1 e3])
              | (have q := (hq2.resolve_left (fun q => absurd (q.2.2.2.1.symm.trans h151) (by decide)))
                 rw [if_pos ⟨a1, a2, a3⟩, if_neg q.1] at hA
                 rw [hA, q.2.2]
                 exact ⟨Or.inr ⟨rfl, rfl, k1.1, k1.2.1⟩, fun x e1 e2 e3 => (o1 _ e1 e3).trans (o0 _ e1 e3), rfl, rfl⟩)
              | (have q := (hq1.resolve_left (fun q => absurd (q.2.2.2.1.symm.trans h141) (by decide)))
                 rw [if_neg q.1] at hA
                 rw [hA, q.2.2]
                 exact ⟨Or.inr ⟨rfl, rfl, k0.1, k0.2.1⟩, fun x e1 e2 e3 => o0 _ e1 e3, rfl, rfl⟩)
            · exact absurd h161 (by decide)
          · skip
            have hq2a := hq2.resolve_right (fun q => h151 q.2.1)
            obtain ⟨c1, c2, c3, -, c5⟩ := hq2a
            rw [b1, u1] at c5
            obtain ⟨k2, u2', o2⟩ := KR_of c5
            have g0 : I2 (m + 11) 0 = v0 := by rw [u2', up_n _ _ (by decide), up_s]
            have g1 : I2 (m + 11) 1 = v1 := by rw [u2', up_s]
            have x2 : I2 (m + 10) = I (m + 10) := by rw [o2 _ (by omega) (by omega), o1 _ (by omega) (by omega), o0 _ (by omega) (by omega)]
            refine r_iconst (pc := 154) dX12_readsItem_154 ?_
            refine r_goto (pc := 155) 159 dX12_readsItem_155 (by decide) ?_
            refine r_istore_n (pc := 159) dX12_readsItem_159 (by decide) ?_
            refine r_iload_n (pc := 160) dX12_readsItem_160 rfl ?_
            refine r_if_eq (pc := 161) 188 dX12_readsItem_161 (by decide) (by first | omega | (split <;> decide)) (fun h161 => ?_) (fun h161 => ?_)
            · exact absurd h161 (by decide)
            · skip
              refine r_aload_n (pc := 164) dX12_readsItem_164 rfl ?_
              refine r_getA (pc := 165) dX12_readsItem_165 frX12_42 (by assumption) (by assumption) ?_
              refine r_bipush (pc := 168) dX12_readsItem_168 (by decide) ?_
              refine r_iconst (pc := 170) dX12_readsItem_170 ?_
              refine r_aload_n (pc := 171) dX12_readsItem_171 rfl ?_
              refine r_getA (pc := 172) dX12_readsItem_172 frX12_45 (by assumption) (by assumption) ?_
              refine r_iconst (pc := 175) dX12_readsItem_175 ?_
              refine r_iald (j := 0) (pc := 176) dX12_readsItem_176 (by assumption) rfl (by first | omega | (split <;> decide)) (by omega) ?_
              try simp only [u2_I, uR_uR, uR_app, eq_self, Nat.reduceEqDiff, Nat.add_eq_left, Nat.left_eq_add, ↓reduceIte]
              rw [g0]
              refine r_imul (pc := 177) dX12_readsItem_177 ?_
              refine r_iadd (pc := 178) dX12_readsItem_178 ?_
              refine r_iconst (pc := 179) dX12_readsItem_179 ?_
              refine r_iadd (pc := 180) dX12_readsItem_180 ?_
              refine r_aload_n (pc := 181) dX12_readsItem_181 rfl ?_
              refine r_getA (pc := 182) dX12_readsItem_182 frX12_45 (by assumption) (by assumption) ?_
              refine r_iconst (pc := 185) dX12_readsItem_185 ?_
              refine r_iald (j := 1) (pc := 186) dX12_readsItem_186 (by assumption) rfl (by first | omega | (split <;> decide)) (by omega) ?_
              try simp only [u2_I, uR_uR, uR_app, eq_self, Nat.reduceEqDiff, Nat.add_eq_left, Nat.left_eq_add, ↓reduceIte]
              rw [g1]
              refine r_iast (j := 10 + 4 * v0.toNat) (pc := 187) dX12_readsItem_187 (by assumption) (by first | omega | (split <;> decide)) (by omega) (by first | omega | (split <;> decide)) (by omega) ?_
              try simp only [u2_I, uR_uR, uR_app, eq_self, Nat.reduceEqDiff, Nat.add_eq_left, Nat.left_eq_add, ↓reduceIte]
              refine r_iload_n (pc := 188) dX12_readsItem_188 rfl ?_
              refine t_iret (pc := 189) dX12_readsItem_189 rfl rfl ?_
              first
              | (rw [if_pos ⟨a1, a2, a3⟩, if_pos ⟨c1, c2, c3⟩] at hA
                 rw [hA]
                 refine ⟨Or.inl ⟨rfl, rfl, ?_, ?_, ?_⟩, ?_, rfl, rfl⟩
                 · rw [uR_n _ _ (by omega), ← hb]; exact k2
                 · rw [uR_s, x2, hi3]; rfl
                 · rw [uR_n _ _ (by omega)]; exact u2'
                 · intro x e1 e2 e3
                   rw [uR_n _ _ e2, o2 _ e1 e3, o1 _ e1 e3, o0 _ e1 e3])
              | (have q := (hq2.resolve_left (fun q => absurd (q.2.2.2.1.symm.trans h151) (by decide)))
                 rw [if_pos ⟨a1, a2, a3⟩, if_neg q.1] at hA
                 rw [hA, q.2.2]
                 exact ⟨Or.inr ⟨rfl, rfl, k1.1, k1.2.1⟩, fun x e1 e2 e3 => (o1 _ e1 e3).trans (o0 _ e1 e3), rfl, rfl⟩)
              | (have q := (hq1.resolve_left (fun q => absurd (q.2.2.2.1.symm.trans h141) (by decide)))
                 rw [if_neg q.1] at hA
                 rw [hA, q.2.2]
                 exact ⟨Or.inr ⟨rfl, rfl, k0.1, k0.2.1⟩, fun x e1 e2 e3 => o0 _ e1 e3, rfl, rfl⟩)
    · skip
      have hi2 : it = 2 := q2.mp (wt h103)
      refine r_aload_n (pc := 106) dX12_readsItem_106 rfl ?_
      refine i_V0ig (pc := 107) okX12_readsFamily inX12_readsFamily selX12_readsFamily q1430 dX12_readsItem_107 (by assumption) rfl (by decide) (Nat.le_of_ble_eq_true rfl) (sX12_readsFamily (n := n) (T := T) (v := v) (s := s) (hbb := by rw [← hb]; exact hbb)) (fun r5 I5 P5 L5 hq5 => ?_)
      rw [← hb] at hq5
      have hr5 : r5 = 0 ∨ r5 = 1 := by
        rcases hq5 with ⟨z1, z2, z3, z4, z5⟩ | ⟨z1, z2⟩
        · exact Or.inl z2
        · exact QAr_w z2
      refine t_iret (pc := 110) dX12_readsItem_110 rfl (nar_z (by first | decide | exact hr5)) ?_
      rcases hq5 with ⟨z1, z2, z3, z4, z5⟩ | ⟨z1, z2⟩
      · rw [z2]; exact nix () (hNo (by omega)) _ _ _ z3 z4 z5
      · rw [hN2 hi2 z1, hi2]; exact z2
  · skip
    have hi1 : it = 1 := q1.mp (wt h15)
    have hA := hN1 hi1
    refine r_aload_n (pc := 18) dX12_readsItem_18 rfl ?_
    refine i_V0vg (pc := 19) okX12_goOn inX12_goOn selX12_goOn q1418 dX12_readsItem_19 (by assumption) rfl (by decide) (Nat.le_of_ble_eq_true rfl) (sX12_goOn (n := n) (T := T) (v := v) (hbb := by rw [← hb]; exact hbb)) (fun I0 P0 L0 hq0 => ?_)
    rw [← hb, hT0, hV0] at hq0
    obtain ⟨⟨k0, u0, o0⟩, rfl, rfl⟩ := KR_ofK hq0
    have b0 : I0 (m + 9) = b := by rw [o0 _ (by omega) (by omega)]; exact hb.symm
    try simp only [u2_I, uR_uR, uR_app, eq_self, Nat.reduceEqDiff, Nat.add_eq_left, Nat.left_eq_add, ↓reduceIte]
    refine r_aload_n (pc := 22) dX12_readsItem_22 rfl ?_
    refine r_iconst (pc := 23) dX12_readsItem_23 ?_
    refine r_iconst (pc := 24) dX12_readsItem_24 ?_
    refine r_iconst (pc := 25) dX12_readsItem_25 ?_
    refine i_V3ig (pc := 26) okX12_takes inX12_takes selX12_takes q1422 dX12_readsItem_26 (by assumption) rfl (by decide) (Nat.le_of_ble_eq_true rfl) (sX12_takes (k := 0) (n := n) (T := T0) (v := v0) (hT := k0) (hbb := by rw [b0]; exact hbb)) (fun r1 I1 P1 L1 hq1 => ?_)
    obtain ⟨hq1, rfl, rfl⟩ := hq1
    have hr1 : iR r1 := by rcases hq1 with ⟨-, -, -, q, -⟩ | ⟨-, q, -⟩ <;> rw [q] <;> decide
    try simp only [u2_I, uR_uR, uR_app, eq_self, Nat.reduceEqDiff, Nat.add_eq_left, Nat.left_eq_add, ↓reduceIte]
    refine r_if_eq (pc := 29) 48 dX12_readsItem_29 (by decide) (by first | omega | (split <;> decide)) (fun h29 => ?_) (fun h29 => ?_)
    · skip
      refine r_iconst (pc := 48) dX12_readsItem_48 ?_
      refine r_istore_n (pc := 49) dX12_readsItem_49 (by decide) ?_
      refine r_aload_n (pc := 50) dX12_readsItem_50 rfl ?_
      refine r_getA (pc := 51) dX12_readsItem_51 frX12_42 (by assumption) (by assumption) ?_
      refine r_iconst (pc := 54) dX12_readsItem_54 ?_
      refine r_iload_n (pc := 55) dX12_readsItem_55 rfl ?_
      refine r_if_eq (pc := 56) 68 dX12_readsItem_56 (by decide) (by first | omega | (split <;> decide)) (fun h56 => ?_) (fun h56 => ?_)
      · skip
        refine r_iconst (pc := 68) dX12_readsItem_68 ?_
        refine r_iadd (pc := 69) dX12_readsItem_69 ?_
        refine r_iload_n (pc := 70) dX12_readsItem_70 rfl ?_
        refine r_if_eq (pc := 71) 83 dX12_readsItem_71 (by decide) (by first | omega | (split <;> decide)) (fun h71 => ?_) (fun h71 => ?_)
        · skip
          refine r_iconst (pc := 83) dX12_readsItem_83 ?_
          refine st _ _ _ 0 _ 0 2 hm (by omega) (by omega) (by decide) (Or.inl rfl) ⟨Or.inr ⟨?_, rfl, ?_⟩, ?_, rfl, rfl⟩
          · first
            | (have q := (hq2.resolve_left (fun q => absurd (q.2.2.2.1.symm.trans h41) (by decide)))
               rw [if_pos ⟨a1, a2, a3⟩, if_neg q.1] at hA
               rw [hA])
            | (have q := (hq1.resolve_left (fun q => absurd (q.2.2.2.1.symm.trans h29) (by decide)))
               rw [if_neg q.1] at hA
               rw [hA])
          · rw [uR_n _ _ (by omega)]
            first
            | (have q := (hq2.resolve_left (fun q => absurd (q.2.2.2.1.symm.trans h41) (by decide)))
               rw [if_pos ⟨a1, a2, a3⟩, if_neg q.1] at hA
               rw [hA, q.2.2]
               exact ⟨k1.1, k1.2.1⟩)
            | (have q := (hq1.resolve_left (fun q => absurd (q.2.2.2.1.symm.trans h29) (by decide)))
               rw [if_neg q.1] at hA
               rw [hA, q.2.2]
               exact ⟨k0.1, k0.2.1⟩)
          · intro x e1 e2 e3
            rw [uR_n _ _ e2]
            first
            | (have q := (hq2.resolve_left (fun q => absurd (q.2.2.2.1.symm.trans h41) (by decide)))
               rw [q.2.2, o1 _ e1 e3, o0 _ e1 e3])
            | (have q := (hq1.resolve_left (fun q => absurd (q.2.2.2.1.symm.trans h29) (by decide)))
               rw [q.2.2, o0 _ e1 e3])
        · exact absurd h71 (by decide)
      · exact absurd h56 (by decide)
    · skip
      have hq1a := hq1.resolve_right (fun q => h29 q.2.1)
      obtain ⟨a1, a2, a3, -, a5⟩ := hq1a
      rw [b0, hT1, hV1, u0] at a5
      obtain ⟨k1, u1, o1⟩ := KR_of a5
      have b1 : I1 (m + 9) = b := by rw [o1 _ (by omega) (by omega)]; exact b0
      refine r_aload_n (pc := 32) dX12_readsItem_32 rfl ?_
      refine r_iconst (pc := 33) dX12_readsItem_33 ?_
      refine r_iconst (pc := 34) dX12_readsItem_34 ?_
      refine r_sipush (pc := 35) dX12_readsItem_35 (by decide) ?_
      refine i_V3ig (pc := 38) okX12_takes inX12_takes selX12_takes q1422 dX12_readsItem_38 (by assumption) rfl (by decide) (Nat.le_of_ble_eq_true rfl) (sX12_takes (k := 1) (n := n) (T := T1) (v := v1) (hT := k1) (hbb := by rw [b1]; exact hbb)) (fun r2 I2 P2 L2 hq2 => ?_)
      obtain ⟨hq2, rfl, rfl⟩ := hq2
      have hr2 : iR r2 := by rcases hq2 with ⟨-, -, -, q, -⟩ | ⟨-, q, -⟩ <;> rw [q] <;> decide
      try simp only [u2_I, uR_uR, uR_app, eq_self, Nat.reduceEqDiff, Nat.add_eq_left, Nat.left_eq_add, ↓reduceIte]
      refine r_if_eq (pc := 41) 48 dX12_readsItem_41 (by decide) (by first | omega | (split <;> decide)) (fun h41 => ?_) (fun h41 => ?_)
      · skip
        refine r_iconst (pc := 48) dX12_readsItem_48 ?_
        refine r_istore_n (pc := 49) dX12_readsItem_49 (by decide) ?_
        refine r_aload_n (pc := 50) dX12_readsItem_50 rfl ?_
        refine r_getA (pc := 51) dX12_readsItem_51 frX12_42 (by assumption) (by assumption) ?_
        refine r_iconst (pc := 54) dX12_readsItem_54 ?_
        refine r_iload_n (pc := 55) dX12_readsItem_55 rfl ?_
        refine r_if_eq (pc := 56) 68 dX12_readsItem_56 (by decide) (by first | omega | (split <;> decide)) (fun h56 => ?_) (fun h56 => ?_)
        · skip
          refine r_iconst (pc := 68) dX12_readsItem_68 ?_
          refine r_iadd (pc := 69) dX12_readsItem_69 ?_
          refine r_iload_n (pc := 70) dX12_readsItem_70 rfl ?_
          refine r_if_eq (pc := 71) 83 dX12_readsItem_71 (by decide) (by first | omega | (split <;> decide)) (fun h71 => ?_) (fun h71 => ?_)
          · skip
            refine r_iconst (pc := 83) dX12_readsItem_83 ?_
            refine st _ _ _ 0 _ 0 2 hm (by omega) (by omega) (by decide) (Or.inl rfl) ⟨Or.inr ⟨?_, rfl, ?_⟩, ?_, rfl, rfl⟩
            · first
              | (have q := (hq2.resolve_left (fun q => absurd (q.2.2.2.1.symm.trans h41) (by decide)))
                 rw [if_pos ⟨a1, a2, a3⟩, if_neg q.1] at hA
                 rw [hA])
              | (have q := (hq1.resolve_left (fun q => absurd (q.2.2.2.1.symm.trans h29) (by decide)))
                 rw [if_neg q.1] at hA
                 rw [hA])
            · rw [uR_n _ _ (by omega)]
              first
              | (have q := (hq2.resolve_left (fun q => absurd (q.2.2.2.1.symm.trans h41) (by decide)))
                 rw [if_pos ⟨a1, a2, a3⟩, if_neg q.1] at hA
                 rw [hA, q.2.2]
                 exact ⟨k1.1, k1.2.1⟩)
              | (have q := (hq1.resolve_left (fun q => absurd (q.2.2.2.1.symm.trans h29) (by decide)))
                 rw [if_neg q.1] at hA
                 rw [hA, q.2.2]
                 exact ⟨k0.1, k0.2.1⟩)
            · intro x e1 e2 e3
              rw [uR_n _ _ e2]
              first
              | (have q := (hq2.resolve_left (fun q => absurd (q.2.2.2.1.symm.trans h41) (by decide)))
                 rw [q.2.2, o1 _ e1 e3, o0 _ e1 e3])
              | (have q := (hq1.resolve_left (fun q => absurd (q.2.2.2.1.symm.trans h29) (by decide)))
                 rw [q.2.2, o0 _ e1 e3])
          · exact absurd h71 (by decide)
        · exact absurd h56 (by decide)
      · skip
        have hq2a := hq2.resolve_right (fun q => h41 q.2.1)
        obtain ⟨c1, c2, c3, -, c5⟩ := hq2a
        rw [b1, u1] at c5
        obtain ⟨k2, u2', o2⟩ := KR_of c5
        have g0 : I2 (m + 11) 0 = v0 := by rw [u2', up_n _ _ (by decide), up_s]
        have g1 : I2 (m + 11) 1 = v1 := by rw [u2', up_s]
        have x2 : I2 (m + 10) = I (m + 10) := by rw [o2 _ (by omega) (by omega), o1 _ (by omega) (by omega), o0 _ (by omega) (by omega)]
        refine r_iconst (pc := 44) dX12_readsItem_44 ?_
        refine r_goto (pc := 45) 49 dX12_readsItem_45 (by decide) ?_
        refine r_istore_n (pc := 49) dX12_readsItem_49 (by decide) ?_
        refine r_aload_n (pc := 50) dX12_readsItem_50 rfl ?_
        refine r_getA (pc := 51) dX12_readsItem_51 frX12_42 (by assumption) (by assumption) ?_
        refine r_iconst (pc := 54) dX12_readsItem_54 ?_
        refine r_iload_n (pc := 55) dX12_readsItem_55 rfl ?_
        refine r_if_eq (pc := 56) 68 dX12_readsItem_56 (by decide) (by first | omega | (split <;> decide)) (fun h56 => ?_) (fun h56 => ?_)
        · exact absurd h56 (by decide)
        · skip
          refine r_aload_n (pc := 59) dX12_readsItem_59 rfl ?_
          refine r_getA (pc := 60) dX12_readsItem_60 frX12_45 (by assumption) (by assumption) ?_
          refine r_iconst (pc := 63) dX12_readsItem_63 ?_
          refine r_iald (j := 0) (pc := 64) dX12_readsItem_64 (by assumption) rfl (by first | omega | (split <;> decide)) (by omega) ?_
          try simp only [u2_I, uR_uR, uR_app, eq_self, Nat.reduceEqDiff, Nat.add_eq_left, Nat.left_eq_add, ↓reduceIte]
          rw [g0]
          refine r_goto (pc := 65) 69 dX12_readsItem_65 (by decide) ?_
          refine r_iadd (pc := 69) dX12_readsItem_69 ?_
          refine r_iload_n (pc := 70) dX12_readsItem_70 rfl ?_
          refine r_if_eq (pc := 71) 83 dX12_readsItem_71 (by decide) (by first | omega | (split <;> decide)) (fun h71 => ?_) (fun h71 => ?_)
          · exact absurd h71 (by decide)
          · skip
            refine r_aload_n (pc := 74) dX12_readsItem_74 rfl ?_
            refine r_getA (pc := 75) dX12_readsItem_75 frX12_45 (by assumption) (by assumption) ?_
            refine r_iconst (pc := 78) dX12_readsItem_78 ?_
            refine r_iald (j := 1) (pc := 79) dX12_readsItem_79 (by assumption) rfl (by first | omega | (split <;> decide)) (by omega) ?_
            try simp only [u2_I, uR_uR, uR_app, eq_self, Nat.reduceEqDiff, Nat.add_eq_left, Nat.left_eq_add, ↓reduceIte]
            rw [g1]
            refine r_goto (pc := 80) 84 dX12_readsItem_80 (by decide) ?_
            refine st _ _ _ v1 _ 1 (2 + v0.toNat) hm (by omega) (by omega) (by omega) (Or.inr rfl) ⟨Or.inl ?_, ?_, rfl, rfl⟩
            · rw [if_pos ⟨a1, a2, a3⟩, if_pos ⟨c1, c2, c3⟩] at hA
              rw [hA]
              refine ⟨rfl, rfl, ?_, ?_, ?_⟩
              · rw [uR_n _ _ (by omega), ← hb]; exact k2
              · rw [uR_s, x2, hi1]; rfl
              · rw [uR_n _ _ (by omega)]; exact u2'
            · intro x e1 e2 e3
              rw [uR_n _ _ e2, o2 _ e1 e3, o1 _ e1 e3, o0 _ e1 e3]
end REF16

