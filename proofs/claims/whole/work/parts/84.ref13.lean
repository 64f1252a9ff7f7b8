/-! the reference: items -/
def addN (it : Int) (t X : Nat → Int) : Nat → Int := if it = 0 then begR X (t 0) else if it = 1 then up X (2 + (t 0).toNat) (t 1) else if it = 2 then setlF X (sizeF X) (t 0) (t 1) (t 2) else if it = 3 then up X (10 + 4 * (t 0).toNat) (t 1) else debtB X (X 33).toNat (t 0) (t 1) (t 2)
def KR (m n : Nat) (T : Nat × Nat × Int) (v : Int) (U : Nat → Int) (I I1 : MI) : Prop := TSf n T v (I1 m) ∧ I1 (m + 11) = U ∧ ∀ x, x ≠ m → x ≠ m + 11 → I1 x = I x
theorem KR_of {m n : Nat} {T : Nat × Nat × Int} {v : Int} {U : Nat → Int} {I I1 : MI} (h : ∃ W, I1 = uR (uR I (m + 11) U) m W ∧ TSf n T v W) : KR m n T v U I I1 := by
  obtain ⟨W, rfl, hW⟩ := h
  refine ⟨by rw [uR_s]; exact hW, by rw [uR_n _ _ (by omega), uR_s], fun x h1 h2 => by rw [uR_n _ _ h1, uR_n _ _ h2]⟩
theorem KR_ofK {m n : Nat} {T : Nat × Nat × Int} {v : Int} {I I1 : MI} {P P1 : MP} {L L1 : ML} (h : QK m n T v I P L I1 P1 L1) : KR m n T v (I (m + 11)) I I1 ∧ P = P1 ∧ L = L1 := by
  obtain ⟨⟨W, rfl, w1, w2, w3, w4, w5, -⟩, hP, hL⟩ := h
  exact ⟨⟨by rw [uR_s]; exact ⟨w1, w2, w3, w4, w5⟩, uR_n _ _ (by omega), fun x h1 _ => uR_n _ _ h1⟩, hP, hL⟩
theorem arg_st (b : Nat → Int) (n item : Nat) (fam : Int) (k i a : Nat) (t : Nat → Int) : argS b n item fam (k + 1) i a t = if (tok b n a).2.2 = 3 ∧ fitB item i (tokV b n a) (t 0) fam = true then argS b n item fam k (i + 1) (tok b n a).2.1 (up t i (tokV b n a)) else (false, (tok b n a).1, (tok b n a).2.1, t) := rfl
theorem arg_0 (b : Nat → Int) (n item : Nat) (fam : Int) (i a : Nat) (t : Nat → Int) : argS b n item fam 0 i a t = (true, 0, a, t) := rfl
theorem ft (item i : Nat) (v t0 fam lo hi : Int) (h : fitB item i v t0 fam = decide (lo ≤ v ∧ v ≤ hi)) : fitB item i v t0 fam = true ↔ lo ≤ v ∧ v ≤ hi := by rw [h, decide_eq_true_eq]
theorem ft00 (v t0 fam : Int) : fitB 0 0 v t0 fam = true ↔ 2 ≤ v ∧ v ≤ 70 := ft _ _ _ _ _ _ _ rfl
theorem ft10 (v t0 fam : Int) : fitB 1 0 v t0 fam = true ↔ 0 ≤ v ∧ v ≤ 3 := ft _ _ _ _ _ _ _ rfl
theorem ft11 (v t0 fam : Int) : fitB 1 1 v t0 fam = true ↔ 0 ≤ v ∧ v ≤ 9999 := ft _ _ _ _ _ _ _ rfl
theorem ft20 (v t0 fam : Int) : fitB 2 0 v t0 fam = true ↔ 0 ≤ v ∧ v ≤ 4 := ft _ _ _ _ _ _ _ rfl
theorem ft21 (v t0 fam : Int) : fitB 2 1 v t0 fam = true ↔ 1 ≤ v ∧ v ≤ 20 := ft _ _ _ _ _ _ _ rfl
theorem ft22 (v t0 fam : Int) : fitB 2 2 v t0 fam = true ↔ 0 ≤ v ∧ v ≤ 9 := ft _ _ _ _ _ _ _ rfl
theorem ft30 (v t0 fam : Int) : fitB 3 0 v t0 fam = true ↔ 0 ≤ v ∧ v ≤ fam - 1 := ft _ _ _ _ _ _ _ rfl
theorem ft31 (v t0 fam : Int) : fitB 3 1 v t0 fam = true ↔ 0 ≤ v ∧ v ≤ 4 := ft _ _ _ _ _ _ _ rfl
theorem ft40 (v t0 fam : Int) : fitB 4 0 v t0 fam = true ↔ 0 ≤ v ∧ v ≤ fam - 1 := ft _ _ _ _ _ _ _ rfl
theorem ft41 (v t0 fam : Int) : fitB 4 1 v t0 fam = true ↔ v ≠ t0 ∧ 0 ≤ v ∧ v ≤ fam - 1 := by
  have e : fitB 4 1 v t0 fam = if v = t0 then false else decide (0 ≤ v ∧ v ≤ fam - 1) := by
    unfold fitB
    by_cases h : v = t0
    · rw [if_pos ⟨rfl, rfl, h⟩, if_pos h]
    · rw [if_neg (fun q => h q.2.2), if_neg h]; rfl
  rw [e]
  by_cases h : v = t0
  · rw [if_pos h]; exact ⟨fun q => (by cases q), fun q => absurd h q.1⟩
  · rw [if_neg h, decide_eq_true_eq]; exact ⟨fun q => ⟨h, q⟩, fun q => q.2⟩
theorem ft42 (v t0 fam : Int) : fitB 4 2 v t0 fam = true ↔ 1 ≤ v ∧ v ≤ 999 := ft _ _ _ _ _ _ _ rfl
/-- what the reading of an item's numbers leaves -/
def QAr (m n : Nat) (it : Int) (A : Bool × Nat × Nat × (Nat → Int)) (I : MI) (P : MP) (L : ML) : Int → MI → MP → ML → Prop := fun r I1 P1 L1 => ((A.1 = true ∧ r = 1 ∧ TSf n (tok (I (m + 9)) n A.2.2.1) (tokV (I (m + 9)) n A.2.2.1) (I1 m) ∧ I1 (m + 10) = addN it A.2.2.2 (I (m + 10)) ∧ I1 (m + 11) = A.2.2.2) ∨ (A.1 = false ∧ r = 0 ∧ I1 m 11 = (n : Int) ∧ I1 m 12 = (A.2.1 : Int))) ∧ (∀ x, x ≠ m → x ≠ m + 10 → x ≠ m + 11 → I1 x = I x) ∧ P = P1 ∧ L = L1
section REF13
variable {G : WG} {C : CF} {I : MI} {P : MP} {L : ML} {m n : Nat} {T : Nat × Nat × Int} {v : Int}
theorem sX12_readsFamily {s : Nat} (hm : RfL G C P m := by assumption) (hT : TSf n T v (I m) := by assumption) (h150 : n ≤ 150 := by omega) (hbb : ∀ j, j < 150 → 0 ≤ I (m + 9) j ∧ I (m + 9) j ≤ 127 := by assumption) (hTn : T.1 ≤ T.2.1 ∧ T.2.1 ≤ n := by omega) (hs : I (m + 10) 6 = (s : Int) := by assumption) (hs6 : s ≤ 6 := by omega) : SX12_readsFamily G [.ref m] C I P L (NI C (fun r I1 P1 L1 => (s = 6 ∧ r = 0 ∧ I1 = I ∧ P = P1 ∧ L = L1) ∨ (s < 6 ∧ QAr m n 2 (argS (I (m + 9)) n 2 (I (m + 10) 6) 3 0 T.2.1 (I (m + 11))) I P L r I1 P1 L1))) := by
  obtain ⟨hBm, hKm, hK1, hK2, hK3, hK4, hK5, hK6, hK7, hK8, hK9, hK10, hK11, hP0, hP1, hP2, hP3, hP6, hP7, hP8, hP9, hP10, hP16, hP17⟩ := id hm
  have hsz : sizeF (I (m + 10)) = s := by unfold sizeF; omega
  obtain ⟨b, hb⟩ : ∃ b, b = I (m + 9) := ⟨_, rfl⟩
  rw [← hb] at hbb ⊢
  have t0 := tok_in b (n := n) (a := T.2.1) hTn.2
  have t1 := tok_in b (n := n) (a := (tok b n T.2.1).2.1) t0.2.2.2.1
  have t2 := tok_in b (n := n) (a := (tok b n (tok b n T.2.1).2.1).2.1) t1.2.2.2.1
  have n0 := fun h => tok_num (b := b) (n := n) (a := T.2.1) h
  have n1 := fun h => tok_num (b := b) (n := n) (a := (tok b n T.2.1).2.1) h
  have n2 := fun h => tok_num (b := b) (n := n) (a := (tok b n (tok b n T.2.1).2.1).2.1) h
  have hA := arg_st b n 2 (I (m + 10) 6) 2 0 T.2.1 (I (m + 11))
  generalize hAA : argS b n 2 (I (m + 10) 6) (2 + 1) 0 T.2.1 (I (m + 11)) = A at hA
  rw [arg_st, arg_st, arg_0] at hA
  simp only [Nat.zero_add, Nat.reduceAdd] at hA
  simp only [ft20, ft21, ft22] at hA
  generalize hT0 : tok b n T.2.1 = T0 at t0 t1 t2 n0 n1 n2 hA
  generalize hT1 : tok b n T0.2.1 = T1 at t1 t2 n1 n2 hA
  generalize hT2 : tok b n T1.2.1 = T2 at t2 n2 hA
  generalize hV0 : tokV b n T.2.1 = v0 at n0 hA
  generalize hV1 : tokV b n T0.2.1 = v1 at n1 hA
  generalize hV2 : tokV b n T1.2.1 = v2 at n2 hA
  refine en_I (by decide +kernel) (Nat.le_of_ble_eq_true rfl) ?_
  change Wd _ _ _ _ _ _ _ _ 0 [some _] [] _ _ _ _
  refine r_aload_n (pc := 0) dX12_readsFamily_0 rfl ?_
  refine r_getA (pc := 1) dX12_readsFamily_1 frX12_42 (by assumption) (by assumption) ?_
  refine r_bipush (pc := 4) dX12_readsFamily_4 (by decide) ?_
  refine r_iald (j := 6) (pc := 6) dX12_readsFamily_6 (by assumption) rfl (by omega) (by omega) ?_
  refine r_bipush (pc := 7) dX12_readsFamily_7 (by decide) ?_
  rw [hs]
  refine r_icmp_ne (pc := 9) 14 dX12_readsFamily_9 (by decide) (by omega) (by omega) (fun h9 => ?_) (fun h9 => ?_)
  · skip
    refine r_aload_n (pc := 14) dX12_readsFamily_14 rfl ?_
    refine i_V0vg (pc := 15) okX12_goOn inX12_goOn selX12_goOn q1418 dX12_readsFamily_15 (by assumption) rfl (by decide) (Nat.le_of_ble_eq_true rfl) (sX12_goOn (n := n) (T := T) (v := v) (hbb := by rw [← hb]; exact hbb)) (fun I0 P0 L0 hq0 => ?_)
    rw [← hb, hT0, hV0] at hq0
    obtain ⟨⟨k0, u0, o0⟩, rfl, rfl⟩ := KR_ofK hq0
    have b0 : I0 (m + 9) = b := by rw [o0 _ (by omega) (by omega)]; exact hb.symm
    try simp only [u2_I, uR_uR, uR_app, eq_self, Nat.reduceEqDiff, Nat.add_eq_left, Nat.left_eq_add, ↓reduceIte]
    refine r_aload_n (pc := 18) dX12_readsFamily_18 rfl ?_
    refine r_iconst (pc := 19) dX12_readsFamily_19 ?_
    refine r_iconst (pc := 20) dX12_readsFamily_20 ?_
    refine r_iconst (pc := 21) dX12_readsFamily_21 ?_
    refine i_V3ig (pc := 22) okX12_takes inX12_takes selX12_takes q1422 dX12_readsFamily_22 (by assumption) rfl (by decide) (Nat.le_of_ble_eq_true rfl) (sX12_takes (k := 0) (n := n) (T := T0) (v := v0) (hT := k0) (hbb := by rw [b0]; exact hbb)) (fun r1 I1 P1 L1 hq1 => ?_)
    obtain ⟨hq1, rfl, rfl⟩ := hq1
    have hr1 : iR r1 := by rcases hq1 with ⟨-, -, -, q, -⟩ | ⟨-, q, -⟩ <;> rw [q] <;> decide
    try simp only [u2_I, uR_uR, uR_app, eq_self, Nat.reduceEqDiff, Nat.add_eq_left, Nat.left_eq_add, ↓reduceIte]
    refine r_if_eq (pc := 25) 50 dX12_readsFamily_25 (by decide) (by omega) (fun h25 => ?_) (fun h25 => ?_)
    · skip
      refine r_iconst (pc := 50) dX12_readsFamily_50 ?_
      refine t_iret (pc := 51) dX12_readsFamily_51 rfl rfl ?_
      refine Or.inr ⟨by omega, Or.inr ?_, ?_, rfl, rfl⟩
      · first
        | (have q := (hq3.resolve_left (fun q => absurd (q.2.2.2.1.symm.trans h47) (by decide)))
           rw [if_pos ⟨a1, a2, a3⟩, if_pos ⟨c1, c2, c3⟩, if_neg q.1] at hA
           rw [hA, q.2.2]
           exact ⟨rfl, rfl, k2.1, k2.2.1⟩)
        | (have q := (hq2.resolve_left (fun q => absurd (q.2.2.2.1.symm.trans h36) (by decide)))
           rw [if_pos ⟨a1, a2, a3⟩, if_neg q.1] at hA
           rw [hA, q.2.2]
           exact ⟨rfl, rfl, k1.1, k1.2.1⟩)
        | (have q := (hq1.resolve_left (fun q => absurd (q.2.2.2.1.symm.trans h25) (by decide)))
           rw [if_neg q.1] at hA
           rw [hA, q.2.2]
           exact ⟨rfl, rfl, k0.1, k0.2.1⟩)
      · intro x e1 e2 e3
        first
        | (have q := (hq3.resolve_left (fun q => absurd (q.2.2.2.1.symm.trans h47) (by decide)))
           rw [q.2.2, o2 _ e1 e3, o1 _ e1 e3, o0 _ e1 e3])
        | (have q := (hq2.resolve_left (fun q => absurd (q.2.2.2.1.symm.trans h36) (by decide)))
           rw [q.2.2, o1 _ e1 e3, o0 _ e1 e3])
        | (have q := (hq1.resolve_left (fun q => absurd (q.2.2.2.1.symm.trans h25) (by decide)))
           rw [q.2.2, o0 _ e1 e3])
    · skip
      have hq1a := hq1.resolve_right (fun q => h25 q.2.1)
      obtain ⟨a1, a2, a3, -, a5⟩ := hq1a
      rw [b0, hT1, hV1, u0] at a5
      obtain ⟨k1, u1, o1⟩ := KR_of a5
      have b1 : I1 (m + 9) = b := by rw [o1 _ (by omega) (by omega)]; exact b0
      refine r_aload_n (pc := 28) dX12_readsFamily_28 rfl ?_
      refine r_iconst (pc := 29) dX12_readsFamily_29 ?_
      refine r_iconst (pc := 30) dX12_readsFamily_30 ?_
      refine r_bipush (pc := 31) dX12_readsFamily_31 (by decide) ?_
      refine i_V3ig (pc := 33) okX12_takes inX12_takes selX12_takes q1422 dX12_readsFamily_33 (by assumption) rfl (by decide) (Nat.le_of_ble_eq_true rfl) (sX12_takes (k := 1) (n := n) (T := T1) (v := v1) (hT := k1) (hbb := by rw [b1]; exact hbb)) (fun r2 I2 P2 L2 hq2 => ?_)
      obtain ⟨hq2, rfl, rfl⟩ := hq2
      have hr2 : iR r2 := by rcases hq2 with ⟨-, -, -, q, -⟩ | ⟨-, q, -⟩ <;> rw [q] <;> decide
      try simp only [u2_I, uR_uR, uR_app, eq_self, Nat.reduceEqDiff, Nat.add_eq_left, Nat.left_eq_add, ↓reduceIte]
      refine r_if_eq (pc := 36) 50 dX12_readsFamily_36 (by decide) (by omega) (fun h36 => ?_) (fun h36 => ?_)
      · skip
        refine r_iconst (pc := 50) dX12_readsFamily_50 ?_
        refine t_iret (pc := 51) dX12_readsFamily_51 rfl rfl ?_
        refine Or.inr ⟨by omega, Or.inr ?_, ?_, rfl, rfl⟩
        · first
          | (have q := (hq3.resolve_left (fun q => absurd (q.2.2.2.1.symm.trans h47) (by decide)))
             rw [if_pos ⟨a1, a2, a3⟩, if_pos ⟨c1, c2, c3⟩, if_neg q.1] at hA
             rw [hA, q.2.2]
             exact ⟨rfl, rfl, k2.1, k2.2.1⟩)
          | (have q := (hq2.resolve_left (fun q => absurd (q.2.2.2.1.symm.trans h36) (by decide)))
             rw [if_pos ⟨a1, a2, a3⟩, if_neg q.1] at hA
             rw [hA, q.2.2]
             exact ⟨rfl, rfl, k1.1, k1.2.1⟩)
          | (have q := (hq1.resolve_left (fun q => absurd (q.2.2.2.1.symm.trans h25) (by decide)))
             rw [if_neg q.1] at hA
             rw [hA, q.2.2]
             exact ⟨rfl, rfl, k0.1, k0.2.1⟩)
        · intro x e1 e2 e3
          first
          | (have q := (hq3.resolve_left (fun q => absurd (q.2.2.2.1.symm.trans h47) (by decide)))
             rw [q.2.2, o2 _ e1 e3, o1 _ e1 e3, o0 _ e1 e3])
          | (have q := (hq2.resolve_left (fun q => absurd (q.2.2.2.1.symm.trans h36) (by decide)))
             rw [q.2.2, o1 _ e1 e3, o0 _ e1 e3])
          | (have q := (hq1.resolve_left (fun q => absurd (q.2.2.2.1.symm.trans h25) (by decide)))
             rw [q.2.2, o0 _ e1 e3])
      · skip
        have hq2a := hq2.resolve_right (fun q => h36 q.2.1)
        obtain ⟨c1, c2, c3, -, c5⟩ := hq2a
        rw [b1, hT2, hV2, u1] at c5
        obtain ⟨k2, u2', o2⟩ := KR_of c5
        have b2 : I2 (m + 9) = b := by rw [o2 _ (by omega) (by omega)]; exact b1
        refine r_aload_n (pc := 39) dX12_readsFamily_39 rfl ?_
        refine r_iconst (pc := 40) dX12_readsFamily_40 ?_
        refine r_iconst (pc := 41) dX12_readsFamily_41 ?_
        refine r_bipush (pc := 42) dX12_readsFamily_42 (by decide) ?_
        refine i_V3ig (pc := 44) okX12_takes inX12_takes selX12_takes q1422 dX12_readsFamily_44 (by assumption) rfl (by decide) (Nat.le_of_ble_eq_true rfl) (sX12_takes (k := 2) (n := n) (T := T2) (v := v2) (hT := k2) (hbb := by rw [b2]; exact hbb)) (fun r3 I3 P3 L3 hq3 => ?_)
        obtain ⟨hq3, rfl, rfl⟩ := hq3
        have hr3 : iR r3 := by rcases hq3 with ⟨-, -, -, q, -⟩ | ⟨-, q, -⟩ <;> rw [q] <;> decide
        try simp only [u2_I, uR_uR, uR_app, eq_self, Nat.reduceEqDiff, Nat.add_eq_left, Nat.left_eq_add, ↓reduceIte]
        refine r_if_ne (pc := 47) 52 dX12_readsFamily_47 (by decide) (by omega) (fun h47 => ?_) (fun h47 => ?_)
        · skip
          have hq3a := hq3.resolve_right (fun q => h47 q.2.1)
          obtain ⟨d1, d2, d3, -, d5⟩ := hq3a
          rw [b2, u2'] at d5
          obtain ⟨k3, u3, o3⟩ := KR_of d5
          have x3 : I3 (m + 10) = I (m + 10) := by rw [o3 _ (by omega) (by omega), o2 _ (by omega) (by omega), o1 _ (by omega) (by omega), o0 _ (by omega) (by omega)]
          have g0 : I3 (m + 11) 0 = v0 := by rw [u3, up_n _ _ (by decide), up_n _ _ (by decide), up_s]
          have g1 : I3 (m + 11) 1 = v1 := by rw [u3, up_n _ _ (by decide), up_s]
          have g2 : I3 (m + 11) 2 = v2 := by rw [u3, up_s]
          have hs3 : I3 (m + 10) 6 = (s : Int) := by rw [x3]; exact hs
          refine r_aload_n (pc := 52) dX12_readsFamily_52 rfl ?_
          refine r_getA (pc := 53) dX12_readsFamily_53 frX12_42 (by assumption) (by assumption) ?_
          refine r_aload_n (pc := 56) dX12_readsFamily_56 rfl ?_
          refine r_getA (pc := 57) dX12_readsFamily_57 frX12_45 (by assumption) (by assumption) ?_
          refine r_iconst (pc := 60) dX12_readsFamily_60 ?_
          refine r_iald (j := 0) (pc := 61) dX12_readsFamily_61 (by assumption) rfl (by omega) (by omega) ?_
          try simp only [u2_I, uR_uR, uR_app, eq_self, Nat.reduceEqDiff, Nat.add_eq_left, Nat.left_eq_add, ↓reduceIte]
          refine r_aload_n (pc := 62) dX12_readsFamily_62 rfl ?_
          refine r_getA (pc := 63) dX12_readsFamily_63 frX12_45 (by assumption) (by assumption) ?_
          refine r_iconst (pc := 66) dX12_readsFamily_66 ?_
          refine r_iald (j := 1) (pc := 67) dX12_readsFamily_67 (by assumption) rfl (by omega) (by omega) ?_
          try simp only [u2_I, uR_uR, uR_app, eq_self, Nat.reduceEqDiff, Nat.add_eq_left, Nat.left_eq_add, ↓reduceIte]
          refine r_aload_n (pc := 68) dX12_readsFamily_68 rfl ?_
          refine r_getA (pc := 69) dX12_readsFamily_69 frX12_45 (by assumption) (by assumption) ?_
          refine r_iconst (pc := 72) dX12_readsFamily_72 ?_
          refine r_iald (j := 2) (pc := 73) dX12_readsFamily_73 (by assumption) rfl (by omega) (by omega) ?_
          try simp only [u2_I, uR_uR, uR_app, eq_self, Nat.reduceEqDiff, Nat.add_eq_left, Nat.left_eq_add, ↓reduceIte]
          refine i_S4vx (pc := 74) okX12_layFamily staX12_layFamily q1126 dX12_readsFamily_74 (by decide) (Nat.le_of_ble_eq_true rfl) (sX12_layFamily (s := s) (hR := x3) (hs := hs)) ?_
          try simp only [u2_I, uR_uR, uR_app, eq_self, Nat.reduceEqDiff, Nat.add_eq_left, Nat.left_eq_add, ↓reduceIte]
          refine r_iconst (pc := 77) dX12_readsFamily_77 ?_
          refine t_iret (pc := 78) dX12_readsFamily_78 rfl rfl ?_
          refine Or.inr ⟨by omega, Or.inl ?_, ?_, rfl, rfl⟩
          · rw [if_pos ⟨a1, a2, a3⟩, if_pos ⟨c1, c2, c3⟩, if_pos ⟨d1, d2, d3⟩] at hA
            rw [hA]
            refine ⟨rfl, rfl, ?_, ?_, ?_⟩
            · rw [uR_n _ _ (by omega), ← hb]; exact k3
            · rw [uR_s, g0, g1, g2]
              show _ = addN 2 (up (up (up (I (m + 11)) 0 v0) 1 v1) 2 v2) (I (m + 10))
              unfold addN
              rw [if_neg (by decide), if_neg (by decide), if_pos rfl, hsz]
              rw [show up (up (up (I (m + 11)) 0 v0) 1 v1) 2 v2 0 = v0 from rfl, show up (up (up (I (m + 11)) 0 v0) 1 v1) 2 v2 1 = v1 from rfl, show up (up (up (I (m + 11)) 0 v0) 1 v1) 2 v2 2 = v2 from rfl]
            · rw [uR_n _ _ (by omega)]; exact u3
          · intro x e1 e2 e3
            rw [uR_n _ _ e2, o3 _ e1 e3, o2 _ e1 e3, o1 _ e1 e3, o0 _ e1 e3]
        · skip
          refine r_iconst (pc := 50) dX12_readsFamily_50 ?_
          refine t_iret (pc := 51) dX12_readsFamily_51 rfl rfl ?_
          refine Or.inr ⟨by omega, Or.inr ?_, ?_, rfl, rfl⟩
          · first
            | (have q := (hq3.resolve_left (fun q => absurd (q.2.2.2.1.symm.trans h47) (by decide)))
               rw [if_pos ⟨a1, a2, a3⟩, if_pos ⟨c1, c2, c3⟩, if_neg q.1] at hA
               rw [hA, q.2.2]
               exact ⟨rfl, rfl, k2.1, k2.2.1⟩)
            | (have q := (hq2.resolve_left (fun q => absurd (q.2.2.2.1.symm.trans h36) (by decide)))
               rw [if_pos ⟨a1, a2, a3⟩, if_neg q.1] at hA
               rw [hA, q.2.2]
               exact ⟨rfl, rfl, k1.1, k1.2.1⟩)
            | (have q := (hq1.resolve_left (fun q => absurd (q.2.2.2.1.symm.trans h25) (by decide)))
               rw [if_neg q.1] at hA
               rw [hA, q.2.2]
               exact ⟨rfl, rfl, k0.1, k0.2.1⟩)
          · intro x e1 e2 e3
            first
            | (have q := (hq3.resolve_left (fun q => absurd (q.2.2.2.1.symm.trans h47) (by decide)))
               rw [q.2.2, o2 _ e1 e3, o1 _ e1 e3, o0 _ e1 e3])
            | (have q := (hq2.resolve_left (fun q => absurd (q.2.2.2.1.symm.trans h36) (by decide)))
               rw [q.2.2, o1 _ e1 e3, o0 _ e1 e3])
            | (have q := (hq1.resolve_left (fun q => absurd (q.2.2.2.1.symm.trans h25) (by decide)))
               rw [q.2.2, o0 _ e1 e3])
  · skip
    refine r_iconst (pc := 12) dX12_readsFamily_12 ?_
    refine t_iret (pc := 13) dX12_readsFamily_13 rfl rfl ?_
    exact Or.inl ⟨by omega, rfl, rfl, rfl, rfl⟩
end REF13

