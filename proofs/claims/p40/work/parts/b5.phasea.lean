/-! the law's judgement between its phases -/
def WJ (G : WG) (nm : String) (b nf m : Nat) (fi he te : Int) (K1 K : Nat → Option Kd) (n : Nat × Nat) (Z : Nat × Nat) (Q : Post) (Is : MI) (Ps : MP) (Ls : ML) (pc : Nat) (Ic : MI) (Pc : MP) (Lc : ML) : Prop := Wd G ⟨RL, nm, "([I)Z"⟩ cL_law 17 (some .boolean) 48 Z Q pc [some (.ref b), some (.ref (gB G)), some (.int (zI (nf : Int))), some (.int (zI (m : Int))), some (.int (zI fi)), some (.int (zI he)), some (.int (zI te)), none, none, none, none, none, none, none, none, none, none] [] (K, n) (mg K1 Ic Is) (mg K1 Pc Ps) (mg K1 Lc Ls)
theorem wd_f7 {G : WG} {y : MethodName} {cc : ByteArray} {rt : Option FieldType} {rk : Nat} {Z : Nat × Nat} {Q : Post} {pc : Nat} {st : List Value} {C : CF} {I : MI} {P : MP} {L : ML} {a0 a1 a2 a3 a4 a5 a6 x7 x8 x9 x10 x11 x12 x13 x14 x15 x16 : Option Value} (h : Wd G y cc 17 rt rk Z Q pc [a0, a1, a2, a3, a4, a5, a6, none, none, none, none, none, none, none, none, none, none] st C I P L) : Wd G y cc 17 rt rk Z Q pc [a0, a1, a2, a3, a4, a5, a6, x7, x8, x9, x10, x11, x12, x13, x14, x15, x16] st C I P L := by
  intro p l e R s m args below meth c Qm sl0 H locs cells slots arr hX hH hL
  refine h p l e R s m args below meth c Qm sl0 H locs cells slots arr hX hH ⟨hL.1, hL.2.1, rfl, fun i v hi => ?_⟩
  have h4 := hL.2.2.2 i v
  by_cases h7 : i < 7
  · rcases (show i = 0 ∨ i = 1 ∨ i = 2 ∨ i = 3 ∨ i = 4 ∨ i = 5 ∨ i = 6 by omega) with rfl | rfl | rfl | rfl | rfl | rfl | rfl <;> exact h4 hi
  · exfalso
    have hi2 : (List.replicate 10 (none : Option Value))[i - 7]? = some (some v) := by
      have e : ∀ (k : Nat) (A B : List (Option Value)), A.length = k → k ≤ i → (A ++ B)[i]? = B[i - k]? := fun k A B h1 h2 => by rw [List.getElem?_append_right (by omega), h1]
      rw [← e 7 [a0, a1, a2, a3, a4, a5, a6] (List.replicate 10 none) rfl (by omega)]
      exact hi
    rw [List.getElem?_replicate] at hi2
    split at hi2
    · cases hi2
    · cases hi2
theorem mg_self {α : Type} (K : Nat → Option Kd) (f : Nat → α) : mg K f f = f := by
  funext a
  unfold mg
  split <;> rfl
/-- what is told of the lump that the law made -/
def TM (T : Nat → Int) (nf : Nat) (st mo me : Nat → Int) : Prop := T 1 = 0 ∧ T 6 = (nf : Int) ∧ T 31 = 0 ∧ T 32 = 0 ∧ (∀ j, j < 4 → T (2 + j) = st j) ∧ ∀ g, g < nf → T (8 + 4 * g) = mo g ∧ T (9 + 4 * g) = me g
theorem M2_TM {S : YS} {R : LSt × LSt × (Nat → Int) × Int × Int × Int × Int × Int × Int × Int} {st mo me : Nat → Int} {nf : Nat} (h : M2 R st mo me nf S) (hn : nf ≤ 6) : TM (trF S.1.1) nf st mo me := by
  obtain ⟨h1, h2, h3, h4, h5, h6, h7, h8, h9⟩ := h
  have hz : sizeF S.1.1 = nf := by unfold sizeF; omega
  have hs : sizeF S.1.1 ≤ 6 := by omega
  refine ⟨by rw [trF_a _ (by omega)]; exact h4, by rw [trF_a _ (by omega)]; exact h5, by rw [trF_a _ (by omega)]; exact h6, by rw [trF_a _ (by omega)]; exact h7, fun j hj => by rw [trF_a _ (by omega)]; exact h8 j hj, fun g hg => ⟨?_, ?_⟩⟩
  · refine (tr_a S.1.1 ?_).trans (h9 g hg).1
    rw [hz]; omega
  · refine (tr_a S.1.1 ?_).trans (h9 g hg).2
    rw [hz]; omega
theorem kept_1 : ¬ b_and (b_shr (b_or 0 (b_shl 1 0)) 0) 1 = 0 := by decide +kernel
theorem at_image {G : WG} {C : CF} {R : LSt × LSt × (Nat → Int) × Int × Int × Int × Int × Int × Int × Int} {st mo me : Nat → Int} {nf : Nat} {Y r : Int} {I I1 : MI} {P1 : MP} {L L1 : ML} (h : M2 R st mo me nf (rdY G I L)) (hn : nf ≤ 6) (hk : R.2.2.2.2.1 = 0) (hq : QY G (imageS (rdY G I L) 0).1 (imageS (rdY G I L) 0).2 Y C r I1 P1 L1) : r = 1 ∧ ∃ R' T, AtS G C R' T Y I1 P1 L1 ∧ NoB G I1 L1 ∧ ImR R' T ∧ TM T nf st mo me := by
  obtain ⟨q1, q2, q3⟩ := hq
  have e : imageS (rdY G I L) 0 = (1, yIm (rdY G I L) 0 (setL (rdY G I L).2.1 (rdY G I L).1) (b_or (rdY G I L).2.2.2.2.2.1 (b_shl 1 0))) := if_pos (by omega)
  rw [e] at q1 q2
  have hk2 : (rdY G I L).2.2.2.2.2.1 = 0 := by
    have h1 : (rdY G I L).2 = R := h.1
    rw [h1]; exact hk
  have hT := M2_TM h hn
  refine ⟨q1, (rdY G I1 L1).2, trF (rdY G I L).1.1, ⟨q3, rfl, by rw [q2]; rfl⟩, ⟨by rw [q2]; exact h.2.1, by rw [q2]; exact h.2.2.1⟩, ⟨?_, by rw [q2]; exact h.2.1, by rw [q2]; exact h.2.2.1, ?_⟩, hT⟩
  · rw [q2]
    exact trF_set _ _
  · rw [q2]
    show ¬ b_and (b_shr (b_or (rdY G I L).2.2.2.2.2.1 (b_shl 1 0)) 0) 1 = 0
    rw [hk2]; exact kept_1
/-! phase A: the lump is made, its image kept, the forecasts asked -/
theorem ph_a {G : WG} {nm : String} {b Ln : Nat} {K1 K : Nat → Option Kd} {n : Nat × Nat} {Z : Nat × Nat} {Q : Post} {sx : Nat → Int} {Is : MI} {Ps : MP} {Ls : ML} {R : LSt × LSt × (Nat → Int) × Int × Int × Int × Int × Int × Int × Int} {Ic : MI} {Pc : MP} {Lc : ML} (hX : LC b Ln K1 K sx Is) (hy : YI G (K1, n) Ic Pc 0) (hR : (rdY G Ic Lc).2 = R) (hk : R.2.2.2.2.1 = 0) (hten : (rdY G Ic Lc).1.1 0 = 10) (hN : ∀ (nf m : Nat) (R : LSt × LSt × (Nat → Int) × Int × Int × Int × Int × Int × Int × Int) (T : Nat → Int) (Ic : MI) (Pc : MP) (Lc : ML), nf ≤ 6 → 1 ≤ m ∧ m ≤ 20 → AtS G (K1, n) R T 0 Ic Pc Lc → ImR R T → TM T nf (storeV sx Ln) (mouthsV sx Ln) (memoryV sx Ln) → WJ G nm b nf m (firstF T m) (heldF T m) (fewT T m (2 ^ nf)) K1 K n Z Q Is Ps Ls 68 Ic Pc Lc) : Wd G ⟨RL, nm, "([I)Z"⟩ cL_law 17 (some .boolean) 48 Z Q 8 [some (.ref b), some (.ref (gB G)), none, none, none, none, none, none, none, none, none, none, none, none, none, none, none] [] (K, n) (mg K1 Ic Is) (mg K1 Pc Ps) (mg K1 Lc Ls) := by
  obtain ⟨hs1, hKb, hL, hsc⟩ := id hX
  have u7 := upV_in (cellV sx Ln 5) (m := 7) (by decide)
  have u20 := upV_in (cellV sx Ln 12) (m := 20) (by decide)
  obtain ⟨nf, hnf⟩ : ∃ nf : Nat, upV (cellV sx Ln 5) 7 = (nf : Int) := ⟨(upV (cellV sx Ln 5) 7).toNat, by omega⟩
  obtain ⟨m, hm⟩ : ∃ m : Nat, 1 + upV (cellV sx Ln 12) 20 = (m : Int) := ⟨(1 + upV (cellV sx Ln 12) 20).toNat, by omega⟩
  have hn6 : nf ≤ 6 := by omega
  have hm20 : 1 ≤ m ∧ m ≤ 20 := by omega
  refine r_aload_n (pc := 8) dL_law_8 rfl ?_
  refine i_S1ix (pc := 9) okL_families staL_families q703 dL_law_9 (by decide) (Nat.le_of_ble_eq_true rfl) (sL_families hKb (hsc _)) ?_
  rw [hnf]
  refine r_istore_n (pc := 12) dL_law_12 (by decide) ?_
  refine r_aload_n (pc := 13) dL_law_13 rfl ?_
  refine r_aload_n (pc := 14) dL_law_14 rfl ?_
  refine r_iload_n (pc := 15) dL_law_15 rfl ?_
  refine i_S3ig (pc := 16) okL_made staL_made q712 dL_law_16 (by decide) (Nat.le_of_ble_eq_true rfl) (sL_made (nf := nf) hX hy (by omega) hR hten hn6) (fun r1 I1 P1 L1 hq => ?_)
  obtain ⟨e1, I2, P2, L2, rfl, rfl, rfl, y2, m2⟩ := hq
  refine r_if_eq (pc := 19) 31 dL_law_19 (by decide) (by omega) (fun h19 => ?_) (fun h19 => ?_)
  · exfalso; omega
  · skip
    refine r_aload_n (pc := 22) dL_law_22 rfl ?_
    refine r_iconst (pc := 23) dL_law_23 ?_
    refine i_V1if (pc := 24) okX11_image inX11_image selX11_image q663 dL_law_24 (sub_m hs1 _ _ _ _ _ _) (by exact y2.1.1) rfl (by decide) (Nat.le_of_ble_eq_true rfl) (sX11_image (G := G) (C := (K1, n)) (I := I2) (P := P2) (L := L2) (h := y2)) (fun r3 I3 P3 L3 hq3 => ?_)
    dsimp only
    obtain ⟨e3, R', T, a3, nb3, hIm, hTM⟩ := at_image m2 hn6 hk hq3
    rw [mg_mg, mg_mg, mg_mg]
    refine r_iconst (pc := 27) dL_law_27 ?_
    refine r_icmp_eq (pc := 28) 33 dL_law_28 (by decide) (by omega) (by omega) (fun h28 => ?_) (fun h28 => ?_)
    · skip
      refine r_iconst (pc := 33) dL_law_33 ?_
      refine r_aload_n (pc := 34) dL_law_34 rfl ?_
      refine r_bipush (pc := 35) dL_law_35 (by decide) ?_
      refine i_S2ix (pc := 37) okL_cell staL_cell q692 dL_law_37 (by decide) (Nat.le_of_ble_eq_true rfl) (sL_cell (k := 12) hKb (hsc _)) ?_
      refine r_bipush (pc := 40) dL_law_40 (by decide) ?_
      refine i_S2ix (pc := 42) okL_up staL_up q696 dL_law_42 (by decide) (Nat.le_of_ble_eq_true rfl) (sL_up) ?_
      refine r_iadd (pc := 45) dL_law_45 ?_
      rw [hm]
      refine r_istore_n (pc := 46) dL_law_46 (by decide) ?_
      refine r_aload_n (pc := 47) dL_law_47 rfl ?_
      refine r_iload_n (pc := 48) dL_law_48 rfl ?_
      refine i_V1if (pc := 49) okX11_want inX11_want selX11_want q561 dL_law_49 (sub_m hs1 _ _ _ _ _ _) (by exact a3.1.1.1) rfl (by decide) (Nat.le_of_ble_eq_true rfl) (sX11_want (G := G) (C := (K1, n)) (I := I3) (P := P3) (L := L3) (h := a3.1)) (fun r4 I4 P4 L4 hq4 => ?_)
      dsimp only
      obtain ⟨e4, a4⟩ := at_want a3 (by omega) hq4
      rw [mg_mg, mg_mg, mg_mg]
      refine r_istore (pc := 52) dL_law_52 (by decide) ?_
      refine r_aload_n (pc := 54) dL_law_54 rfl ?_
      refine r_iload_n (pc := 55) dL_law_55 rfl ?_
      refine i_V1if (pc := 56) okX11_held inX11_held selX11_held q569 dL_law_56 (sub_m hs1 _ _ _ _ _ _) (by exact a4.1.1.1) rfl (by decide) (Nat.le_of_ble_eq_true rfl) (sX11_held (G := G) (C := (K1, n)) (I := I4) (P := P4) (L := L4) (h := a4.1)) (fun r5 I5 P5 L5 hq5 => ?_)
      dsimp only
      obtain ⟨e5, a5⟩ := at_held a4 (by omega) hq5
      rw [mg_mg, mg_mg, mg_mg]
      refine r_istore (pc := 59) dL_law_59 (by decide) ?_
      refine r_aload_n (pc := 61) dL_law_61 rfl ?_
      refine r_iload_n (pc := 62) dL_law_62 rfl ?_
      refine i_V1if (pc := 63) okX11_teachers inX11_teachers selX11_teachers q578 dL_law_63 (sub_m hs1 _ _ _ _ _ _) (by exact a5.1.1.1) rfl (by decide) (Nat.le_of_ble_eq_true rfl) (sX11_teachers (G := G) (C := (K1, n)) (I := I5) (P := P5) (L := L5) (h := a5.1)) (fun r6 I6 P6 L6 hq6 => ?_)
      dsimp only
      obtain ⟨e6, a6⟩ := at_teach a5 (by omega) hq6
      rw [mg_mg, mg_mg, mg_mg]
      refine r_istore (pc := 66) dL_law_66 (by decide) ?_
      have hz := a3.sz
      have hs6 : sizeF T = nf := by
        have h6 := hTM.2.1
        omega
      rw [hs6] at e6
      have hh := hN nf m R' T I6 P6 L6 hn6 hm20 a6 hIm hTM
      rw [← e4, ← e5, ← e6] at hh
      unfold WJ at hh
      exact hh
    · exfalso; omega

