/-! the reference: read -/
def cpN (X N : Nat → Int) (f : Nat) : Nat → Int := fun x => if x < f then X x else N x
def readM (R : Int × (Nat → Int)) (T : RS) : Int × RS := (R.1, if 0 ≤ R.1 then zN T (cpN R.2 T.1 116) else T)
theorem readN_st (b : Nat → Int) (n d k a : Nat) (X t : Nat → Int) : readN b n (d + 1) k a X t = if (tok b n a).2.2 = 0 ∧ 0 < k then ((k : Int), X) else
      if (itemN b n (tok b n a) (decide (k = 0)) X t).1 = true then readN b n d (k + 1) (itemN b n (tok b n a) (decide (k = 0)) X t).2.2.1 (itemN b n (tok b n a) (decide (k = 0)) X t).2.2.2.1 (itemN b n (tok b n a) (decide (k = 0)) X t).2.2.2.2
      else (-10 - ((itemN b n (tok b n a) (decide (k = 0)) X t).2.1 : Int), (itemN b n (tok b n a) (decide (k = 0)) X t).2.2.2.1) := rfl
theorem itemN_f (b : Nat → Int) (n : Nat) (T : Nat × Nat × Int) (X t : Nat → Int) : itemN b n T false X t = endN b n (itemB b T.1 T.2.1 T.2.2) (argN b n T X t) X := if_neg (by decide)
theorem itemN_t (b : Nat → Int) (n : Nat) (T : Nat × Nat × Int) (X t : Nat → Int) : itemN b n T true X t = endN b n 0 (argF b n T X t) X := if_pos rfl
theorem endN_adv {b : Nat → Int} {n : Nat} {it : Int} {A : Bool × Nat × Nat × (Nat → Int)} {X : Nat → Int} (hn : A.2.2.1 ≤ n) (h2 : A.2.1 ≤ n) : (endN b n it A X).2.1 ≤ n ∧ ((endN b n it A X).1 = true → A.1 = true ∧ A.2.2.1 < (endN b n it A X).2.2.1 ∧ (endN b n it A X).2.2.1 ≤ n ∧ (endN b n it A X).2.2.2.1 = addN it A.2.2.2 X) := by
  have hti := tok_in b hn
  cases h1 : A.1 with
  | false => rw [endN_f h1]; exact ⟨h2, fun h => by cases h⟩
  | true =>
    by_cases hs : (tok b n A.2.2.1).2.2 = 1
    · rw [endN_t h1 hs]
      have := hti.2.2.2.2.2.2 (by omega)
      exact ⟨hti.2.1, fun _ => ⟨rfl, Nat.lt_of_le_of_lt hti.1 this, hti.2.2.2.1, rfl⟩⟩
    · rw [endN_m h1 hs]
      exact ⟨hti.2.1, fun h => by cases h⟩
theorem begR_in (X : Nat → Int) (y : Int) : inX (begR X y) := ⟨⟨(show (0 : Int) ≤ 0 by decide), (show (0 : Int) ≤ 6 by decide)⟩, ⟨(show (0 : Int) ≤ 0 by decide), (show (0 : Int) ≤ 8 by decide)⟩⟩
theorem cpN_0 (X N : Nat → Int) : cpN X N 0 = N := by funext x; unfold cpN; rw [if_neg (by omega)]
theorem cpN_s (X N : Nat → Int) (o : Nat) : up (cpN X N o) o (X o) = cpN X N (o + 1) := by
  funext x
  rw [up_app]
  unfold cpN
  by_cases h0 : x = o
  · rw [if_pos h0, if_pos (by omega), h0]
  · rw [if_neg h0]
    by_cases h1 : x < o
    · rw [if_pos h1, if_pos (by omega)]
    · rw [if_neg h1, if_neg (by omega)]
section REF18
variable {G : WG} {C : CF} {I : MI} {P : MP} {L : ML} {m n : Nat}
theorem sX12_read (hm : RfL G C P m := by assumption) (hn : I m 11 = (n : Int) := by assumption) (h150 : n ≤ 150 := by omega) (hbb : ∀ j, j < 150 → 0 ≤ I (m + 9) j ∧ I (m + 9) j ≤ 127 := by assumption) : SX12_read G [.ref m] C I P L (NI C (QZ m (readM (readN (I (m + 9)) n (n + 2) 0 0 (I (m + 10)) (I (m + 11))) (rdM m I L)).1 (readM (readN (I (m + 9)) n (n + 2) 0 0 (I (m + 10)) (I (m + 11))) (rdM m I L)).2 P)) := by
  obtain ⟨hBm, hKm, hK1, hK2, hK3, hK4, hK5, hK6, hK7, hK8, hK9, hK10, hK11, hP0, hP1, hP2, hP3, hP6, hP7, hP8, hP9, hP10, hP16, hP17⟩ := id hm
  obtain ⟨b, hb⟩ : ∃ b, b = I (m + 9) := ⟨_, rfl⟩
  rw [← hb] at hbb ⊢
  generalize hRG : readN b n (n + 2) 0 0 (I (m + 10)) (I (m + 11)) = R
  have bad : ∀ _u : Unit, ∀ (I1 : MI) (v : Int), v = R.1 → R.1 < 0 → (∀ x, x ≠ m → x ≠ m + 10 → x ≠ m + 11 → I1 x = I x) → I1 m 11 = (n : Int) → QZ m (readM R (rdM m I L)).1 (readM R (rdM m I L)).2 P v I1 P L := by
    intro _ I1 v hv hneg hO h11
    refine QZ_mk hv ?_ rfl
    rw [if_neg (by omega)]
    unfold rdM
    rw [hO (m + 1) (by omega) (by omega) (by omega), hO (m + 2) (by omega) (by omega) (by omega), hO (m + 3) (by omega) (by omega) (by omega), hO (m + 4) (by omega) (by omega) (by omega), hO (m + 9) (by omega) (by omega) (by omega), h11, hn]
  refine en_I (by decide +kernel) (Nat.le_of_ble_eq_true rfl) ?_
  change Wd _ _ _ _ _ _ _ _ 0 [some _, none, none] [] _ _ _ _
  have copy : ∀ _u : Unit, ∀ (k : Int) (I1 : MI), iR k → 0 ≤ k → R = (k, I1 (m + 10)) → (∀ x, x ≠ m → x ≠ m + 10 → x ≠ m + 11 → I1 x = I x) → I1 m 11 = (n : Int) → ∀ (d o : Nat) (i : Int) (J : MI), o + d = 116 → i = (o : Int) → J = uR I1 (m + 1) (cpN (I1 (m + 10)) (I (m + 1)) o) → Wd G yX12_read cX12_read 3 (some .int) 7 (C.2.1 + 0, C.2.2 + 0) (NI C (QZ m (readM R (rdM m I L)).1 (readM R (rdM m I L)).2 P)) 68 [some (.ref m), some (.int (zI k)), some (.int (zI i))] [] C J P L := by
    intro _ k I1 hkr hk0 hR hO h11 d
    induction d with
    | zero =>
      intro o i J hd hi hJ
      subst hJ
      refine r_iload_n (pc := 68) dX12_read_68 rfl ?_
      refine r_bipush (pc := 69) dX12_read_69 (by decide) ?_
      refine r_icmp_ge (pc := 71) 92 dX12_read_71 (by decide) (by omega) (by omega) (fun h71 => ?_) (fun h71 => ?_)
      · skip
        refine r_iload_n (pc := 92) dX12_read_92 rfl ?_
        refine t_iret (pc := 93) dX12_read_93 rfl rfl ?_
        rw [hR]
        refine QZ_mk rfl ?_ rfl
        rw [if_pos hk0, rdM_N]
        unfold rdM zN
        rw [hO (m + 1) (by omega) (by omega) (by omega), hO (m + 2) (by omega) (by omega) (by omega), hO (m + 3) (by omega) (by omega) (by omega), hO (m + 4) (by omega) (by omega) (by omega), hO (m + 9) (by omega) (by omega) (by omega), h11, hn, show o = 116 by omega]
      · exfalso; omega
    | succ d ih =>
      intro o i J hd hi hJ
      subst hJ
      refine r_iload_n (pc := 68) dX12_read_68 rfl ?_
      refine r_bipush (pc := 69) dX12_read_69 (by decide) ?_
      refine r_icmp_ge (pc := 71) 92 dX12_read_71 (by decide) (by omega) (by omega) (fun h71 => ?_) (fun h71 => ?_)
      · exfalso; omega
      · skip
        refine r_aload_n (pc := 74) dX12_read_74 rfl ?_
        refine r_getA (pc := 75) dX12_read_75 frX12_7 (by assumption) (by assumption) ?_
        refine r_iload_n (pc := 78) dX12_read_78 rfl ?_
        refine r_aload_n (pc := 79) dX12_read_79 rfl ?_
        refine r_getA (pc := 80) dX12_read_80 frX12_42 (by assumption) (by assumption) ?_
        refine r_iload_n (pc := 83) dX12_read_83 rfl ?_
        refine r_iald (j := o) (pc := 84) dX12_read_84 (by assumption) (by omega) (by omega) (by omega) ?_
        try simp only [u2_I, uR_uR, uR_app, eq_self, Nat.reduceEqDiff, Nat.add_eq_left, Nat.left_eq_add, ↓reduceIte]
        refine r_iast (j := o) (pc := 85) dX12_read_85 (by assumption) (by omega) (by omega) (by omega) (by omega) ?_
        try simp only [u2_I, uR_uR, uR_app, eq_self, Nat.reduceEqDiff, Nat.add_eq_left, Nat.left_eq_add, ↓reduceIte]
        refine r_iinc (pc := 86) dX12_read_86 rfl ?_
        refine r_goto (pc := 89) 68 dX12_read_89 (by decide) ?_
        refine ih (o + 1) _ _ (by omega) (by omega) ?_
        rw [cpN_s]
  have loop : ∀ _u : Unit, ∀ (d k a : Nat) (x : Int) (I1 : MI), d + k = n + 2 → k ≤ a → a ≤ n → 1 ≤ k → x = (k : Int) → TSf n (tok b n a) (tokV b n a) (I1 m) → inX (I1 (m + 10)) → (∀ x, x ≠ m → x ≠ m + 10 → x ≠ m + 11 → I1 x = I x) → readN b n d k a (I1 (m + 10)) (I1 (m + 11)) = R → Wd G yX12_read cX12_read 3 (some .int) 7 (C.2.1 + 0, C.2.2 + 0) (NI C (QZ m (readM R (rdM m I L)).1 (readM R (rdM m I L)).2 P)) 26 [some (.ref m), some (.int (zI x)), none] [] C I1 P L := by
    intro _ d
    induction d with
    | zero => intro k a x I1 hd hka han; exfalso; omega
    | succ d ih =>
      intro k a x I1 hd hka han hk1 hx hT hX hO hR
      have eb : I1 (m + 9) = b := by rw [hO _ (by omega) (by omega) (by omega)]; exact hb.symm
      have hti := tok_in b han
      have hkm := kM_in (so := (tok b n a).2.2) (by omega)
      have hkr : iR (kM (tok b n a).2.2) := by omega
      have hX6 : I1 (m + 10) 6 = ((I1 (m + 10) 6).toNat : Int) := by have := hX.1; omega
      have hX33 : I1 (m + 10) 33 = ((I1 (m + 10) 33).toNat : Int) := by have := hX.2; omega
      have hX7 := hX.1
      have hX8 := hX.2
      have hAi := argN_in b n (tok b n a) (I1 (m + 10)) (I1 (m + 11)) ⟨hti.2.2.1, hti.2.2.2.1⟩
      have hEa := endN_adv (b := b) (n := n) (it := itemB b (tok b n a).1 (tok b n a).2.1 (tok b n a).2.2) (A := argN b n (tok b n a) (I1 (m + 10)) (I1 (m + 11))) (X := I1 (m + 10)) hAi.2.1 hAi.2.2
      have hNi : (endN b n (itemB b (tok b n a).1 (tok b n a).2.1 (tok b n a).2.2) (argN b n (tok b n a) (I1 (m + 10)) (I1 (m + 11))) (I1 (m + 10))).1 = true → inX (endN b n (itemB b (tok b n a).1 (tok b n a).2.1 (tok b n a).2.2) (argN b n (tok b n a) (I1 (m + 10)) (I1 (m + 11))) (I1 (m + 10))).2.2.2.1 := by
        intro h
        obtain ⟨hA1, -, -, hAx⟩ := hEa.2 h
        obtain ⟨item, i1, i2, i3, i4, i5, i6⟩ := argN_ok hA1
        rw [hAx, i1]
        exact addN_in hX i3 i4 i5 i6
      rw [readN_st, decide_eq_false (by omega), itemN_f] at hR
      refine r_aload_n (pc := 26) dX12_read_26 rfl ?_
      refine r_getI (pc := 27) dX12_read_27 frX12_257 (by assumption) ?_
      rw [hT.2.2.2.1]
      refine r_if_eq (pc := 30) 66 dX12_read_30 (by decide) (by omega) (fun h30 => ?_) (fun h30 => ?_)
      · skip
        refine r_iconst (pc := 66) dX12_read_66 ?_
        refine r_istore_n (pc := 67) dX12_read_67 (by decide) ?_
        refine copy () _ I1 (by omega) (by omega) ?_ hO hT.1 116 0 _ _ (by omega) rfl ?_
        · rw [← hR, if_pos ⟨hkm.2.2.1.mp h30, by omega⟩, hx]
        · rw [cpN_0, ← hO (m + 1) (by omega) (by omega) (by omega)]; exact (uR_same I1 (m + 1)).symm
      · skip
        refine r_aload_n (pc := 33) dX12_read_33 rfl ?_
        refine i_V0ig (pc := 34) okX12_readsItem inX12_readsItem selX12_readsItem q1426 dX12_read_34 (by assumption) rfl (by decide) (Nat.le_of_ble_eq_true rfl) (sX12_readsItem (n := n) (T := tok b n a) (v := tokV b n a) (s := (I1 (m + 10) 6).toNat) (k := (I1 (m + 10) 33).toNat) (hbb := by rw [eb]; exact hbb)) (fun r5 I5 P5 L5 hq5 => ?_)
        have hr5 := QAr_w hq5
        obtain ⟨-, o5, -, -⟩ := id hq5
        have hyes := fun hr ht => QAr_yes hq5 (by rw [eb]; exact hAi.2.1) hr ht
        have hnot := fun hr => QAr_not hq5 (by rw [eb]; exact hAi.2.1) hr
        have h14 : ¬ r5 = 0 → iR (I5 m 14) := fun h => by
          rcases hq5.1 with ⟨-, -, z3, -⟩ | ⟨-, z2, -⟩
          · have z4 := z3.2.2.2.1
            have hti2 := tok_in b hAi.2.1
            rw [eb] at z4
            have := kM_in (so := (tok b n (argN b n (tok b n a) (I1 (m + 10)) (I1 (m + 11))).2.2.1).2.2) (by omega)
            omega
          · exact absurd z2 h
        obtain ⟨-, -, rfl, rfl⟩ := hq5
        rw [eb] at hyes hnot
        have hO5 : ∀ x, x ≠ m → x ≠ m + 10 → x ≠ m + 11 → I5 x = I x := fun x e1 e2 e3 => (o5 x e1 e2 e3).trans (hO x e1 e2 e3)
        have eb5 : I5 (m + 9) = b := by rw [hO5 _ (by omega) (by omega) (by omega)]; exact hb.symm
        generalize endN b n (itemB b (tok b n a).1 (tok b n a).2.1 (tok b n a).2.2) (argN b n (tok b n a) (I1 (m + 10)) (I1 (m + 11))) (I1 (m + 10)) = E at hyes hnot hR hEa hNi
        refine r_if_eq (pc := 37) 48 dX12_read_37 (by decide) (by omega) (fun h37 => ?_) (fun h37 => ?_)
        · skip
          have hno := hnot (Or.inl h37)
          refine r_bipush (pc := 48) dX12_read_48 (by decide) ?_
          refine r_aload_n (pc := 50) dX12_read_50 rfl ?_
          refine r_getI (pc := 51) dX12_read_51 frX12_251 (by assumption) ?_
          rw [hno.2.2]
          have hE2 := hEa.1
          refine r_isub (pc := 54) dX12_read_54 ?_
          refine t_iret (pc := 55) dX12_read_55 rfl rfl ?_
          refine bad () _ _ ?_ ?_ hO5 hno.2.1
          · rw [← hR, if_neg (fun z => h30 (hkm.2.2.1.mpr z.1)), if_neg (by rw [hno.1]; decide)]
          · rw [← hR, if_neg (fun z => h30 (hkm.2.2.1.mpr z.1)), if_neg (by rw [hno.1]; decide)]
            show (-10 - (E.2.1 : Int)) < 0
            omega
        · skip
          have h14r := h14 h37
          refine r_aload_n (pc := 40) dX12_read_40 rfl ?_
          refine r_getI (pc := 41) dX12_read_41 frX12_257 (by assumption) ?_
          refine r_iconst (pc := 44) dX12_read_44 ?_
          refine r_icmp_eq (pc := 45) 56 dX12_read_45 (by decide) (by omega) (by omega) (fun h45 => ?_) (fun h45 => ?_)
          · skip
            obtain ⟨y1, ⟨T5, v5, y2, y3, y4, y5⟩, y6, y7⟩ := hyes h37 h45
            refine r_aload_n (pc := 56) dX12_read_56 rfl ?_
            refine i_V0vg (pc := 57) okX12_goOn inX12_goOn selX12_goOn q1418 dX12_read_57 (by assumption) rfl (by decide) (Nat.le_of_ble_eq_true rfl) (sX12_goOn (n := n) (T := T5) (v := v5) (hbb := by rw [eb5]; exact hbb)) (fun I6 P6 L6 hq6 => ?_)
            rw [eb5] at hq6
            obtain ⟨⟨k6, u6, o6⟩, rfl, rfl⟩ := KR_ofK hq6
            try simp only [u2_I, uR_uR, uR_app, eq_self, Nat.reduceEqDiff, Nat.add_eq_left, Nat.left_eq_add, ↓reduceIte]
            refine r_iinc (pc := 60) dX12_read_60 rfl ?_
            refine r_goto (pc := 63) 26 dX12_read_63 (by decide) ?_
            refine ih (k + 1) E.2.2.1 _ I6 (by omega) ?_ (by omega) (by omega) (by omega) (by rw [y3]; exact k6) ?_ ?_ ?_
            · have := (hEa.2 y1).2.1; have := hti.1; have := hti.2.2.1; have := hAi.1; omega
            · rw [o6 _ (by omega) (by omega), y6]; exact hNi y1
            · exact fun x e1 e2 e3 => (o6 x e1 e3).trans (hO5 x e1 e2 e3)
            · rw [if_neg (fun z => h30 (hkm.2.2.1.mpr z.1)), if_pos y1] at hR
              rw [o6 _ (by omega) (by omega), u6, y6, y7]; exact hR
          · skip
            have hno := hnot (Or.inr h45)
            refine r_bipush (pc := 48) dX12_read_48 (by decide) ?_
            refine r_aload_n (pc := 50) dX12_read_50 rfl ?_
            refine r_getI (pc := 51) dX12_read_51 frX12_251 (by assumption) ?_
            rw [hno.2.2]
            have hE2 := hEa.1
            refine r_isub (pc := 54) dX12_read_54 ?_
            refine t_iret (pc := 55) dX12_read_55 rfl rfl ?_
            refine bad () _ _ ?_ ?_ hO5 hno.2.1
            · rw [← hR, if_neg (fun z => h30 (hkm.2.2.1.mpr z.1)), if_neg (by rw [hno.1]; decide)]
            · rw [← hR, if_neg (fun z => h30 (hkm.2.2.1.mpr z.1)), if_neg (by rw [hno.1]; decide)]
              show (-10 - (E.2.1 : Int)) < 0
              omega
  have ht0 := tok_in b (n := n) (a := 0) (by omega)
  rw [readN_st, decide_eq_true rfl, itemN_t, if_neg (fun z => absurd z.2 (by omega))] at hRG
  refine r_aload_n (pc := 0) dX12_read_0 rfl ?_
  refine r_iconst (pc := 1) dX12_read_1 ?_
  refine i_V1vg (pc := 2) okX12_look inX12_look selX12_look q1396 dX12_read_2 (by assumption) rfl (by decide) (Nat.le_of_ble_eq_true rfl) (sX12_look (n := n) (a := 0) (hbb := by rw [← hb]; exact hbb)) (fun I2 P2 L2 hq2 => ?_)
  rw [← hb] at hq2
  obtain ⟨⟨k2, u2', o2⟩, rfl, rfl⟩ := KR_ofK hq2
  have b2 : I2 (m + 9) = b := by rw [o2 _ (by omega) (by omega)]; exact hb.symm
  have x2 : I2 (m + 10) = I (m + 10) := o2 _ (by omega) (by omega)
  have hO2 : ∀ x, x ≠ m → x ≠ m + 10 → x ≠ m + 11 → I2 x = I x := fun x e1 e2 e3 => o2 x e1 e3
  try simp only [u2_I, uR_uR, uR_app, eq_self, Nat.reduceEqDiff, Nat.add_eq_left, Nat.left_eq_add, ↓reduceIte]
  refine r_aload_n (pc := 5) dX12_read_5 rfl ?_
  refine i_V0ig (pc := 6) okX12_readsFirst inX12_readsFirst selX12_readsFirst q1410 dX12_read_6 (by assumption) rfl (by decide) (Nat.le_of_ble_eq_true rfl) (sX12_readsFirst (n := n) (T := tok b n 0) (v := tokV b n 0) (hbb := by rw [b2]; exact hbb)) (fun r5 I5 P5 L5 hq5 => ?_)
  rw [b2, x2, u2'] at hq5
  obtain ⟨hq5, o5, rfl, rfl⟩ := hq5
  have hAi := argF_in b n (tok b n 0) (I (m + 10)) (I (m + 11)) ⟨ht0.2.2.1, ht0.2.2.2.1⟩
  have hEa := endN_adv (b := b) (n := n) (it := 0) (A := argF b n (tok b n 0) (I (m + 10)) (I (m + 11))) (X := I (m + 10)) hAi.2.1 hAi.2.2
  have hNi : (endN b n 0 (argF b n (tok b n 0) (I (m + 10)) (I (m + 11))) (I (m + 10))).1 = true → inX (endN b n 0 (argF b n (tok b n 0) (I (m + 10)) (I (m + 11))) (I (m + 10))).2.2.2.1 := by
    intro h
    rw [(hEa.2 h).2.2.2]
    exact begR_in _ _
  generalize endN b n 0 (argF b n (tok b n 0) (I (m + 10)) (I (m + 11))) (I (m + 10)) = E at hq5 hRG hEa hNi
  have hO5 : ∀ x, x ≠ m → x ≠ m + 10 → x ≠ m + 11 → I5 x = I x := fun x e1 e2 e3 => (o5 x e1 e2 e3).trans (hO2 x e1 e2 e3)
  have eb5 : I5 (m + 9) = b := by rw [hO5 _ (by omega) (by omega) (by omega)]; exact hb.symm
  have hr5 : iR r5 := by rcases hq5 with ⟨q, -⟩ | ⟨q, -⟩ <;> rw [q] <;> decide
  try simp only [u2_I, uR_uR, uR_app, eq_self, Nat.reduceEqDiff, Nat.add_eq_left, Nat.left_eq_add, ↓reduceIte]
  refine r_if_ne (pc := 9) 20 dX12_read_9 (by decide) (by omega) (fun h9 => ?_) (fun h9 => ?_)
  · skip
    obtain ⟨y1, ⟨T5, v5, y2, y3, y4, y5⟩, y6, y7⟩ := (hq5.resolve_right (fun q => h9 q.1)).2
    refine r_aload_n (pc := 20) dX12_read_20 rfl ?_
    refine i_V0vg (pc := 21) okX12_goOn inX12_goOn selX12_goOn q1418 dX12_read_21 (by assumption) rfl (by decide) (Nat.le_of_ble_eq_true rfl) (sX12_goOn (n := n) (T := T5) (v := v5) (hbb := by rw [eb5]; exact hbb)) (fun I6 P6 L6 hq6 => ?_)
    rw [eb5] at hq6
    obtain ⟨⟨k6, u6, o6⟩, rfl, rfl⟩ := KR_ofK hq6
    try simp only [u2_I, uR_uR, uR_app, eq_self, Nat.reduceEqDiff, Nat.add_eq_left, Nat.left_eq_add, ↓reduceIte]
    refine r_iconst (pc := 24) dX12_read_24 ?_
    refine r_istore_n (pc := 25) dX12_read_25 (by decide) ?_
    refine loop () (n + 1) 1 E.2.2.1 _ I6 (by omega) (by omega) (by omega) (by omega) rfl (by rw [y3]; exact k6) ?_ ?_ ?_
    · rw [o6 _ (by omega) (by omega), y6]; exact hNi y1
    · exact fun x e1 e2 e3 => (o6 x e1 e3).trans (hO5 x e1 e2 e3)
    · rw [if_pos y1] at hRG
      rw [o6 _ (by omega) (by omega), u6, y6, y7]; exact hRG
  · skip
    have hno := (hq5.resolve_left (fun q => absurd (q.1.symm.trans h9) (by decide))).2
    refine r_bipush (pc := 12) dX12_read_12 (by decide) ?_
    refine r_aload_n (pc := 14) dX12_read_14 rfl ?_
    refine r_getI (pc := 15) dX12_read_15 frX12_251 (by assumption) ?_
    try simp only [u2_I, uR_uR, uR_app, eq_self, Nat.reduceEqDiff, Nat.add_eq_left, Nat.left_eq_add, ↓reduceIte]
    rw [hno.2.2]
    have hE2 := hEa.1
    refine r_isub (pc := 18) dX12_read_18 ?_
    refine t_iret (pc := 19) dX12_read_19 rfl rfl ?_
    refine bad () _ _ ?_ ?_ hO5 hno.2.1
    · rw [← hRG, if_neg (by rw [hno.1]; decide)]
    · rw [← hRG, if_neg (by rw [hno.1]; decide)]
      show (-10 - (E.2.1 : Int)) < 0
      omega
end REF18

