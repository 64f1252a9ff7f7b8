/-! the reference: songs, meeting, what there is -/
theorem let_st (R : Nat → Int) (n : Nat) : letN R (n + 1) = (letN R n && decide (0 ≤ R n ∧ R n ≤ 25)) := rfl
theorem ap_st (B : Nat → Int) (v : Nat) (R : Nat → Int) (i : Nat) : apR B v R (i + 1) = apR B v R i + (if B (91 + (6 * v + i)) = R i then 0 else 1) := rfl
theorem tl_st (l p : Int) (n : Nat) : toldF l p (n + 1) = toldF l p n + (if ((n : Int) + 1) % 6 = p then (if ((n : Int) + 1) % 2 = 1 then 1 else -1) else 0) := rfl
section REF8
variable {G : WG} {C : CF} {I : MI} {P : MP} {L : ML} {m : Nat} {Y : Int}
theorem sX12_hears {a b c d e f : Int} (hm : RfL G C P m := by assumption) (ha : iR a := by omega) (hb : iR b := by omega) (hc : iR c := by omega) (hd : iR d := by omega) (he : iR e := by omega) (hf : iR f := by omega) : SX12_hears G [.ref m, .int (zI a), .int (zI b), .int (zI c), .int (zI d), .int (zI e), .int (zI f)] C I P L (NI C (fun r I1 P1 L1 => r = (if letN (rowL a b c d e f) 6 = true then 1 else 0) ∧ (∀ k, k < 6 → I1 (m + 8) k = rowL a b c d e f k) ∧ (∃ W, I1 = uR I (m + 8) W) ∧ P = P1 ∧ L = L1)) := by
  obtain ⟨hBm, hKm, hK1, hK2, hK3, hK4, hK5, hK6, hK7, hK8, hK9, hK10, hK11, hP0, hP1, hP2, hP3, hP6, hP7, hP8, hP9, hP10, hP16, hP17⟩ := id hm
  have hiR : ∀ k, iR (rowL a b c d e f k) := fun k => by unfold rowL; (repeat' split) <;> assumption
  refine en_I (by decide +kernel) (Nat.le_of_ble_eq_true rfl) ?_
  change Wd _ _ _ _ _ _ _ _ 0 [some _, some _, some _, some _, some _, some _, some _, none, none] [] _ _ _ _
  have stopL : ∀ (W : Nat → Int) (i : Int) (k : Nat), (∀ k, k < 6 → W k = rowL a b c d e f k) → iR i → letN (rowL a b c d e f) 6 = false → i = (k : Int) → k ≤ 6 → Wd G yX12_hears cX12_hears 9 (some .boolean) 1 (C.2.1 + 0, C.2.2 + 0) (NI C (fun r I1 P1 L1 => r = (if letN (rowL a b c d e f) 6 = true then 1 else 0) ∧ (∀ k, k < 6 → I1 (m + 8) k = rowL a b c d e f k) ∧ (∃ W, I1 = uR I (m + 8) W) ∧ P = P1 ∧ L = L1)) 51 [some (.ref m), some (.int (zI a)), some (.int (zI b)), some (.int (zI c)), some (.int (zI d)), some (.int (zI e)), some (.int (zI f)), some (.int (zI 0)), some (.int (zI i))] [] C (uR I (m + 8) W) P L := by
    intro W i k hW hi hl hik hk6
    generalize hn : 6 - k = n
    induction n generalizing i k with
    | zero =>
      refine r_iload (pc := 51) dX12_hears_51 rfl ?_
      refine r_bipush (pc := 53) dX12_hears_53 (by decide) ?_
      refine r_icmp_ge (pc := 55) 94 dX12_hears_55 (by decide) (by omega) (by omega) (fun h55 => ?_) (fun h55 => ?_)
      · skip
        refine r_iload (pc := 94) dX12_hears_94 rfl ?_
        refine t_iret (pc := 96) dX12_hears_96 rfl (nar_z (by decide)) ?_
        exact ⟨by rw [hl]; rfl, fun k hk => by rw [uR_s]; exact hW k hk, ⟨W, rfl⟩, rfl, rfl⟩
      · exfalso; omega
    | succ n ih =>
      refine r_iload (pc := 51) dX12_hears_51 rfl ?_
      refine r_bipush (pc := 53) dX12_hears_53 (by decide) ?_
      refine r_icmp_ge (pc := 55) 94 dX12_hears_55 (by decide) (by omega) (by omega) (fun h55 => ?_) (fun h55 => ?_)
      · exfalso; omega
      · skip
        refine r_iload (pc := 58) dX12_hears_58 rfl ?_
        refine r_if_eq (pc := 60) 85 dX12_hears_60 (by decide) (by omega) (fun h60 => ?_) (fun h60 => ?_)
        · skip
          refine r_iconst (pc := 85) dX12_hears_85 ?_
          refine r_istore (pc := 86) dX12_hears_86 (by decide) ?_
          refine r_iinc (pc := 88) dX12_hears_88 rfl ?_
          refine r_goto (pc := 91) 51 dX12_hears_91 (by decide) ?_
          exact ih (i + 1) (k + 1) (by omega) (by omega) (by omega) (by omega)
        · exact absurd rfl h60
  have loop : ∀ (W : Nat → Int) (d o : Nat) (i : Int), (∀ k, k < 6 → W k = rowL a b c d e f k) → o + d = 6 → i = (o : Int) → letN (rowL a b c d e f) o = true → True := fun _ _ _ _ _ _ _ _ => trivial
  have loopT : ∀ (W : Nat → Int), (∀ k, k < 6 → W k = rowL a b c d e f k) → ∀ (n o : Nat) (i : Int), o + n = 6 → i = (o : Int) → letN (rowL a b c d e f) o = true → Wd G yX12_hears cX12_hears 9 (some .boolean) 1 (C.2.1 + 0, C.2.2 + 0) (NI C (fun r I1 P1 L1 => r = (if letN (rowL a b c d e f) 6 = true then 1 else 0) ∧ (∀ k, k < 6 → I1 (m + 8) k = rowL a b c d e f k) ∧ (∃ W, I1 = uR I (m + 8) W) ∧ P = P1 ∧ L = L1)) 51 [some (.ref m), some (.int (zI a)), some (.int (zI b)), some (.int (zI c)), some (.int (zI d)), some (.int (zI e)), some (.int (zI f)), some (.int (zI 1)), some (.int (zI i))] [] C (uR I (m + 8) W) P L := by
    intro W hW n
    induction n with
    | zero =>
      intro o i hd hi hl
      refine r_iload (pc := 51) dX12_hears_51 rfl ?_
      refine r_bipush (pc := 53) dX12_hears_53 (by decide) ?_
      refine r_icmp_ge (pc := 55) 94 dX12_hears_55 (by decide) (by omega) (by omega) (fun h55 => ?_) (fun h55 => ?_)
      · skip
        refine r_iload (pc := 94) dX12_hears_94 rfl ?_
        refine t_iret (pc := 96) dX12_hears_96 rfl (nar_z (by decide)) ?_
        exact ⟨by rw [show letN (rowL a b c d e f) 6 = true by rw [← hl, show o = 6 by omega]]; rfl, fun k hk => by rw [uR_s]; exact hW k hk, ⟨W, rfl⟩, rfl, rfl⟩
      · exfalso; omega
    | succ n ih =>
      intro o i hd hi hl
      have ho6 : o < 6 := by omega
      have hWo := hW o ho6
      have hRo := hiR o
      have hst := let_st (rowL a b c d e f) o
      rw [hl, Bool.true_and] at hst
      refine r_iload (pc := 51) dX12_hears_51 rfl ?_
      refine r_bipush (pc := 53) dX12_hears_53 (by decide) ?_
      refine r_icmp_ge (pc := 55) 94 dX12_hears_55 (by decide) (by first | omega | (split <;> decide)) (by first | omega | (split <;> decide)) (fun h55 => ?_) (fun h55 => ?_)
      · exfalso; omega
      · skip
        refine r_iload (pc := 58) dX12_hears_58 rfl ?_
        refine r_if_eq (pc := 60) 85 dX12_hears_60 (by decide) (by first | omega | (split <;> decide)) (fun h60 => ?_) (fun h60 => ?_)
        · exact absurd h60 (by decide)
        · skip
          refine r_aload_n (pc := 63) dX12_hears_63 rfl ?_
          refine r_getA (pc := 64) dX12_hears_64 frX12_36 (by assumption) (by assumption) ?_
          refine r_iload (pc := 67) dX12_hears_67 rfl ?_
          refine r_iald (j := o) (pc := 69) dX12_hears_69 (by assumption) (by omega) (by first | omega | (split <;> decide)) (by omega) ?_
          try simp only [u2_I, uR_uR, uR_app, eq_self, Nat.reduceEqDiff, Nat.add_eq_left, Nat.left_eq_add, ↓reduceIte]
          rw [hWo]
          refine r_i2l (pc := 70) dX12_hears_70 (by first | omega | (split <;> decide)) ?_
          refine r_lconst (v := 0) (pc := 71) dX12_hears_71 (by decide) ?_
          refine r_ldc2_w (v := (25 : Int)) (pc := 72) dX12_hears_72 kcX12_222 ?_
          refine i_S3ix (pc := 75) okX12_in staX12_in q1098 dX12_hears_75 (by decide) (Nat.le_of_ble_eq_true rfl) (sX12_in) ?_
          try simp only [u2_I, uR_uR, uR_app, eq_self, Nat.reduceEqDiff, Nat.add_eq_left, Nat.left_eq_add, ↓reduceIte]
          refine r_if_eq (pc := 78) 85 dX12_hears_78 (by decide) (by first | omega | (split <;> decide)) (fun h78 => ?_) (fun h78 => ?_)
          · skip
            refine r_iconst (pc := 85) dX12_hears_85 ?_
            refine r_istore (pc := 86) dX12_hears_86 (by decide) ?_
            refine r_iinc (pc := 88) dX12_hears_88 rfl ?_
            refine r_goto (pc := 91) 51 dX12_hears_91 (by decide) ?_
            refine stopL W _ (o + 1) hW (by omega) ?_ (by omega) (by omega)
            exact letN_no (f := o) (wf h78) 6 (by omega)
          · skip
            refine r_iconst (pc := 81) dX12_hears_81 ?_
            refine r_goto (pc := 82) 86 dX12_hears_82 (by decide) ?_
            refine r_istore (pc := 86) dX12_hears_86 (by decide) ?_
            refine r_iinc (pc := 88) dX12_hears_88 rfl ?_
            refine r_goto (pc := 91) 51 dX12_hears_91 (by decide) ?_
            refine ih (o + 1) _ (by omega) (by omega) ?_
            rw [hst]; exact decide_eq_true (wt h78)
  refine r_aload_n (pc := 0) dX12_hears_0 rfl ?_
  refine r_getA (pc := 1) dX12_hears_1 frX12_36 (by assumption) (by assumption) ?_
  refine r_iconst (pc := 4) dX12_hears_4 ?_
  refine r_iload_n (pc := 5) dX12_hears_5 rfl ?_
  refine r_iast (j := 0) (pc := 6) dX12_hears_6 (by assumption) (by omega) rfl (by omega) (by omega) ?_
  try simp only [u2_I, uR_uR, uR_app, eq_self, Nat.reduceEqDiff, Nat.add_eq_left, Nat.left_eq_add, ↓reduceIte]
  refine r_aload_n (pc := 7) dX12_hears_7 rfl ?_
  refine r_getA (pc := 8) dX12_hears_8 frX12_36 (by assumption) (by assumption) ?_
  refine r_iconst (pc := 11) dX12_hears_11 ?_
  refine r_iload_n (pc := 12) dX12_hears_12 rfl ?_
  refine r_iast (j := 1) (pc := 13) dX12_hears_13 (by assumption) (by omega) rfl (by omega) (by omega) ?_
  try simp only [u2_I, uR_uR, uR_app, eq_self, Nat.reduceEqDiff, Nat.add_eq_left, Nat.left_eq_add, ↓reduceIte]
  refine r_aload_n (pc := 14) dX12_hears_14 rfl ?_
  refine r_getA (pc := 15) dX12_hears_15 frX12_36 (by assumption) (by assumption) ?_
  refine r_iconst (pc := 18) dX12_hears_18 ?_
  refine r_iload_n (pc := 19) dX12_hears_19 rfl ?_
  refine r_iast (j := 2) (pc := 20) dX12_hears_20 (by assumption) (by omega) rfl (by omega) (by omega) ?_
  try simp only [u2_I, uR_uR, uR_app, eq_self, Nat.reduceEqDiff, Nat.add_eq_left, Nat.left_eq_add, ↓reduceIte]
  refine r_aload_n (pc := 21) dX12_hears_21 rfl ?_
  refine r_getA (pc := 22) dX12_hears_22 frX12_36 (by assumption) (by assumption) ?_
  refine r_iconst (pc := 25) dX12_hears_25 ?_
  refine r_iload (pc := 26) dX12_hears_26 rfl ?_
  refine r_iast (j := 3) (pc := 28) dX12_hears_28 (by assumption) (by omega) rfl (by omega) (by omega) ?_
  try simp only [u2_I, uR_uR, uR_app, eq_self, Nat.reduceEqDiff, Nat.add_eq_left, Nat.left_eq_add, ↓reduceIte]
  refine r_aload_n (pc := 29) dX12_hears_29 rfl ?_
  refine r_getA (pc := 30) dX12_hears_30 frX12_36 (by assumption) (by assumption) ?_
  refine r_iconst (pc := 33) dX12_hears_33 ?_
  refine r_iload (pc := 34) dX12_hears_34 rfl ?_
  refine r_iast (j := 4) (pc := 36) dX12_hears_36 (by assumption) (by omega) rfl (by omega) (by omega) ?_
  try simp only [u2_I, uR_uR, uR_app, eq_self, Nat.reduceEqDiff, Nat.add_eq_left, Nat.left_eq_add, ↓reduceIte]
  refine r_aload_n (pc := 37) dX12_hears_37 rfl ?_
  refine r_getA (pc := 38) dX12_hears_38 frX12_36 (by assumption) (by assumption) ?_
  refine r_iconst (pc := 41) dX12_hears_41 ?_
  refine r_iload (pc := 42) dX12_hears_42 rfl ?_
  refine r_iast (j := 5) (pc := 44) dX12_hears_44 (by assumption) (by omega) rfl (by omega) (by omega) ?_
  try simp only [u2_I, uR_uR, uR_app, eq_self, Nat.reduceEqDiff, Nat.add_eq_left, Nat.left_eq_add, ↓reduceIte]
  refine r_iconst (pc := 45) dX12_hears_45 ?_
  refine r_istore (pc := 46) dX12_hears_46 (by decide) ?_
  refine r_iconst (pc := 48) dX12_hears_48 ?_
  refine r_istore (pc := 49) dX12_hears_49 (by decide) ?_
  refine loopT _ ?_ 6 0 _ (by omega) rfl rfl
  intro k hk
  simp only [up_app]
  unfold rowL
  rcases (show k = 0 ∨ k = 1 ∨ k = 2 ∨ k = 3 ∨ k = 4 ∨ k = 5 by omega) with rfl | rfl | rfl | rfl | rfl | rfl <;> rfl
theorem sX12_isWord {w : Int} (hm : RfL G C P m := by assumption) (hw : iR w := by omega) (h4 : 0 ≤ I (m + 1) 90 ∧ I (m + 1) 90 ≤ 4 := by omega) : SX12_isWord G [.ref m, .int (zI w)] C I P L (NI C (XI (if 0 ≤ w ∧ w ≤ I (m + 1) 90 - 1 then 1 else 0) I P L)) := by
  obtain ⟨hBm, hKm, hK1, hK2, hK3, hK4, hK5, hK6, hK7, hK8, hK9, hK10, hK11, hP0, hP1, hP2, hP3, hP6, hP7, hP8, hP9, hP10, hP16, hP17⟩ := id hm
  refine en_I (by decide +kernel) (Nat.le_of_ble_eq_true rfl) ?_
  change Wd _ _ _ _ _ _ _ _ 0 [some _, some _] [] _ _ _ _
  refine r_iload_n (pc := 0) dX12_isWord_0 rfl ?_
  refine r_i2l (pc := 1) dX12_isWord_1 (by omega) ?_
  refine r_lconst (v := 0) (pc := 2) dX12_isWord_2 (by decide) ?_
  refine r_aload_n (pc := 3) dX12_isWord_3 rfl ?_
  refine r_getA (pc := 4) dX12_isWord_4 frX12_7 (by assumption) (by assumption) ?_
  refine r_bipush (pc := 7) dX12_isWord_7 (by decide) ?_
  refine r_iald (j := 90) (pc := 9) dX12_isWord_9 (by assumption) rfl (by omega) (by omega) ?_
  refine r_iconst (pc := 10) dX12_isWord_10 ?_
  refine r_isub (pc := 11) dX12_isWord_11 ?_
  refine r_i2l (pc := 12) dX12_isWord_12 (by omega) ?_
  refine i_S3ix (pc := 13) okX12_in staX12_in q1098 dX12_isWord_13 (by decide) (Nat.le_of_ble_eq_true rfl) (sX12_in) ?_
  refine t_iret (pc := 16) dX12_isWord_16 rfl (nar_z (by split <;> simp)) ?_
  exact ⟨rfl, rfl, rfl, rfl⟩
def wordM (T : RS) (R : Nat → Int) : Int × RS := if letN R 6 = true then (if T.1 90 < 4 then (T.1 90, zN T (wordB T.1 (T.1 90).toNat R)) else (-4, zF T)) else (-2, zB T)
theorem rdM_8 (m : Nat) (I : MI) (L : ML) (W : Nat → Int) : rdM m (uR I (m + 8) W) L = rdM m I L := by
  unfold rdM
  rw [uR_n I W (show m + 1 ≠ m + 8 by omega), uR_n I W (show m + 2 ≠ m + 8 by omega), uR_n I W (show m + 3 ≠ m + 8 by omega), uR_n I W (show m + 4 ≠ m + 8 by omega), uR_n I W (show m + 9 ≠ m + 8 by omega), uR_n I W (show m ≠ m + 8 by omega)]
theorem sX12_word {a b c d e f : Int} (hm : RfL G C P m := by assumption) (hBI : BI (I (m + 1)) := by assumption) (ha : iR a := by omega) (hb : iR b := by omega) (hc : iR c := by omega) (hd : iR d := by omega) (he : iR e := by omega) (hf : iR f := by omega) : SX12_word G [.ref m, .int (zI a), .int (zI b), .int (zI c), .int (zI d), .int (zI e), .int (zI f)] C I P L (NI C (QZ m (wordM (rdM m I L) (rowL a b c d e f)).1 (wordM (rdM m I L) (rowL a b c d e f)).2 P)) := by
  obtain ⟨hBm, hKm, hK1, hK2, hK3, hK4, hK5, hK6, hK7, hK8, hK9, hK10, hK11, hP0, hP1, hP2, hP3, hP6, hP7, hP8, hP9, hP10, hP16, hP17⟩ := id hm
  have nb : ∀ b : Bool, iR (if b = true then 1 else 0) := fun b => by cases b <;> decide
  have w4 := hBI.2.2.2.1
  obtain ⟨q, hq⟩ : ∃ q : Nat, I (m + 1) 90 = (q : Int) := ⟨(I (m + 1) 90).toNat, by omega⟩
  refine en_I (by decide +kernel) (Nat.le_of_ble_eq_true rfl) ?_
  change Wd _ _ _ _ _ _ _ _ 0 [some _, some _, some _, some _, some _, some _, some _, none] [] _ _ _ _
  have loop : ∀ (W : Nat → Int), (∀ k, k < 6 → W k = rowL a b c d e f k) → letN (rowL a b c d e f) 6 = true → I (m + 1) 90 < 4 → ∀ (n o : Nat) (i : Int), o + n = 6 → i = (o : Int) → Wd G yX12_word cX12_word 8 (some .int) 2 (C.2.1 + 0, C.2.2 + 0) (NI C (QZ m (wordM (rdM m I L) (rowL a b c d e f)).1 (wordM (rdM m I L) (rowL a b c d e f)).2 P)) 42 [some (.ref m), some (.int (zI a)), some (.int (zI b)), some (.int (zI c)), some (.int (zI d)), some (.int (zI e)), some (.int (zI f)), some (.int (zI i))] [] C (uR (uR I (m + 8) W) (m + 1) (wordN (I (m + 1)) q (rowL a b c d e f) o)) P L := by
    intro W hW hl hlt n
    induction n with
    | zero =>
      intro o i hd hi
      have h90 : wordN (I (m + 1)) q (rowL a b c d e f) o 90 = I (m + 1) 90 := by unfold wordN; rw [if_neg (by omega)]
      refine r_iload (pc := 42) dX12_word_42 rfl ?_
      refine r_bipush (pc := 44) dX12_word_44 (by decide) ?_
      refine r_icmp_ge (pc := 46) 83 dX12_word_46 (by decide) (by omega) (by omega) (fun h46 => ?_) (fun h46 => ?_)
      · skip
        refine r_aload_n (pc := 83) dX12_word_83 rfl ?_
        refine r_getA (pc := 84) dX12_word_84 frX12_7 (by assumption) (by assumption) ?_
        refine r_bipush (pc := 87) dX12_word_87 (by decide) ?_
        refine r_dup2 (pc := 89) dX12_word_89 rfl rfl ?_
        refine r_iald (j := 90) (pc := 90) dX12_word_90 (by assumption) rfl (by omega) (by omega) ?_
        try simp only [u2_I, uR_uR, uR_app, eq_self, Nat.reduceEqDiff, Nat.add_eq_left, Nat.left_eq_add, ↓reduceIte]
        rw [h90]
        refine r_iconst (pc := 91) dX12_word_91 ?_
        refine r_iadd (pc := 92) dX12_word_92 ?_
        refine r_iast (j := 90) (pc := 93) dX12_word_93 (by assumption) (by omega) rfl (by omega) (by omega) ?_
        try simp only [u2_I, uR_uR, uR_app, eq_self, Nat.reduceEqDiff, Nat.add_eq_left, Nat.left_eq_add, ↓reduceIte]
        refine r_aload_n (pc := 94) dX12_word_94 rfl ?_
        refine r_getA (pc := 95) dX12_word_95 frX12_7 (by assumption) (by assumption) ?_
        refine r_bipush (pc := 98) dX12_word_98 (by decide) ?_
        refine r_iald (j := 90) (pc := 100) dX12_word_100 (by assumption) rfl (by omega) (by omega) ?_
        try simp only [u2_I, uR_uR, uR_app, eq_self, Nat.reduceEqDiff, Nat.add_eq_left, Nat.left_eq_add, ↓reduceIte]
        refine r_iconst (pc := 101) dX12_word_101 ?_
        refine r_isub (pc := 102) dX12_word_102 ?_
        refine t_iret (pc := 103) dX12_word_103 rfl rfl ?_
        unfold wordM
        rw [if_pos hl, rdM_1, if_pos hlt]
        refine ⟨?_, ?_, rfl⟩
        · rw [up_s]; show I (m + 1) 90 + 1 - 1 = I (m + 1) 90; omega
        · rw [rdM_N, rdM_8, show o = 6 by omega, hq, Int.toNat_natCast]; rfl
      · exfalso; omega
    | succ n ih =>
      intro o i hd hi
      have ho6 : o < 6 := by omega
      have h90 : wordN (I (m + 1)) q (rowL a b c d e f) o 90 = I (m + 1) 90 := by unfold wordN; rw [if_neg (by omega)]
      have hWo := hW o ho6
      refine r_iload (pc := 42) dX12_word_42 rfl ?_
      refine r_bipush (pc := 44) dX12_word_44 (by decide) ?_
      refine r_icmp_ge (pc := 46) 83 dX12_word_46 (by decide) (by omega) (by omega) (fun h46 => ?_) (fun h46 => ?_)
      · exfalso; omega
      · skip
        refine r_aload_n (pc := 49) dX12_word_49 rfl ?_
        refine r_getA (pc := 50) dX12_word_50 frX12_7 (by assumption) (by assumption) ?_
        refine r_bipush (pc := 53) dX12_word_53 (by decide) ?_
        refine r_bipush (pc := 55) dX12_word_55 (by decide) ?_
        refine r_aload_n (pc := 57) dX12_word_57 rfl ?_
        refine r_getA (pc := 58) dX12_word_58 frX12_7 (by assumption) (by assumption) ?_
        refine r_bipush (pc := 61) dX12_word_61 (by decide) ?_
        refine r_iald (j := 90) (pc := 63) dX12_word_63 (by assumption) rfl (by omega) (by omega) ?_
        try simp only [u2_I, uR_uR, uR_app, eq_self, Nat.reduceEqDiff, Nat.add_eq_left, Nat.left_eq_add, ↓reduceIte]
        rw [h90]
        refine r_imul (pc := 64) dX12_word_64 ?_
        refine r_iadd (pc := 65) dX12_word_65 ?_
        refine r_iload (pc := 66) dX12_word_66 rfl ?_
        refine r_iadd (pc := 68) dX12_word_68 ?_
        refine r_aload_n (pc := 69) dX12_word_69 rfl ?_
        refine r_getA (pc := 70) dX12_word_70 frX12_36 (by assumption) (by assumption) ?_
        refine r_iload (pc := 73) dX12_word_73 rfl ?_
        refine r_iald (j := o) (pc := 75) dX12_word_75 (by assumption) (by omega) (by omega) (by omega) ?_
        try simp only [u2_I, uR_uR, uR_app, eq_self, Nat.reduceEqDiff, Nat.add_eq_left, Nat.left_eq_add, ↓reduceIte]
        rw [hWo]
        refine r_iast (j := 91 + (6 * q + o)) (pc := 76) dX12_word_76 (by assumption) (by omega) (by omega) (by omega) (by omega) ?_
        try simp only [u2_I, uR_uR, uR_app, eq_self, Nat.reduceEqDiff, Nat.add_eq_left, Nat.left_eq_add, ↓reduceIte]
        refine r_iinc (pc := 77) dX12_word_77 rfl ?_
        refine r_goto (pc := 80) 42 dX12_word_80 (by decide) ?_
        rw [wordN_up]
        exact ih (o + 1) _ (by omega) (by omega)
  refine r_aload_n (pc := 0) dX12_word_0 rfl ?_
  refine r_iload_n (pc := 1) dX12_word_1 rfl ?_
  refine r_iload_n (pc := 2) dX12_word_2 rfl ?_
  refine r_iload_n (pc := 3) dX12_word_3 rfl ?_
  refine r_iload (pc := 4) dX12_word_4 rfl ?_
  refine r_iload (pc := 6) dX12_word_6 rfl ?_
  refine r_iload (pc := 8) dX12_word_8 rfl ?_
  refine i_V6ig (pc := 10) okX12_hears inX12_hears selX12_hears q1348 dX12_word_10 (by assumption) rfl (by decide) (Nat.le_of_ble_eq_true rfl) (sX12_hears) (fun r1 I1 P1 L1 hq1 => ?_)
  obtain ⟨rfl, hrow, ⟨W, rfl⟩, rfl, rfl⟩ := hq1
  have hWr : ∀ k, k < 6 → W k = rowL a b c d e f k := fun k hk => by have := hrow k hk; rwa [uR_s] at this
  have e1 : (uR I (m + 8) W) (m + 1) = I (m + 1) := uR_n I W (by omega)
  try simp only [u2_I, uR_uR, uR_app, eq_self, Nat.reduceEqDiff, Nat.add_eq_left, Nat.left_eq_add, ↓reduceIte]
  refine r_if_ne (pc := 13) 23 dX12_word_13 (by decide) (by first | omega | exact nb _) (fun h13 => ?_) (fun h13 => ?_)
  · skip
    refine r_aload_n (pc := 23) dX12_word_23 rfl ?_
    refine r_getA (pc := 24) dX12_word_24 frX12_7 (by assumption) (by assumption) ?_
    refine r_bipush (pc := 27) dX12_word_27 (by decide) ?_
    refine r_iald (j := 90) (pc := 29) dX12_word_29 (by assumption) rfl (by first | omega | exact nb _) (by omega) ?_
    try simp only [u2_I, uR_uR, uR_app, eq_self, Nat.reduceEqDiff, Nat.add_eq_left, Nat.left_eq_add, ↓reduceIte]
    refine r_iconst (pc := 30) dX12_word_30 ?_
    refine r_icmp_ne (pc := 31) 39 dX12_word_31 (by decide) (by first | omega | exact nb _) (by first | omega | exact nb _) (fun h31 => ?_) (fun h31 => ?_)
    · skip
      refine r_iconst (pc := 39) dX12_word_39 ?_
      refine r_istore (pc := 40) dX12_word_40 (by decide) ?_
      have q := loop W hWr (bt h13) (by omega) 6 0 0 (by omega) rfl
      rw [show wordN (I (m + 1)) _ (rowL a b c d e f) 0 = (uR I (m + 8) W) (m + 1) by rw [e1]; funext k; unfold wordN; rw [if_neg (by omega)], uR_same] at q
      exact q
    · skip
      refine r_aload_n (pc := 34) dX12_word_34 rfl ?_
      refine i_V0ix (pc := 35) okX12_full inX12_full selX12_full q1122 dX12_word_35 (by assumption) rfl (by decide) (Nat.le_of_ble_eq_true rfl) (sX12_full) ?_
      try simp only [u2_I, uR_uR, uR_app, eq_self, Nat.reduceEqDiff, Nat.add_eq_left, Nat.left_eq_add, ↓reduceIte]
      refine t_iret (pc := 38) dX12_word_38 rfl rfl ?_
      unfold wordM
      rw [if_pos (bt h13), rdM_1, if_neg (by omega)]
      have q := QZ_full (m := m) (e := -4) (I := uR I (m + 8) W) (P := P) (L := L)
      rw [rdM_8, uR_n I W (show m + 4 ≠ m + 8 by omega)] at q
      exact q
  · skip
    refine r_aload_n (pc := 16) dX12_word_16 rfl ?_
    refine r_bipush (pc := 17) dX12_word_17 (by decide) ?_
    refine i_V1ix (pc := 19) okX12_bad inX12_bad selX12_bad q1101 dX12_word_19 (by assumption) rfl (by decide) (Nat.le_of_ble_eq_true rfl) (sX12_bad) ?_
    try simp only [u2_I, uR_uR, uR_app, eq_self, Nat.reduceEqDiff, Nat.add_eq_left, Nat.left_eq_add, ↓reduceIte]
    refine t_iret (pc := 22) dX12_word_22 rfl rfl ?_
    unfold wordM
    rw [if_neg (bf h13)]
    have q := QZ_bad (m := m) (e := -2) (I := uR I (m + 8) W) (P := P) (L := L)
    rw [rdM_8, uR_n I W (show m + 4 ≠ m + 8 by omega)] at q
    exact q
theorem sX12_apartOf {v w : Nat} {x y : Int} (hm : RfL G C P m := by assumption) (hBI : BI (I (m + 1)) := by assumption) (hx : x = (v : Int) := by first | rfl | omega) (hy : y = (w : Int) := by first | rfl | omega) (hv : v < 4 := by omega) (hw : w < 4 := by omega) : SX12_apartOf G [.ref m, .int (zI x), .int (zI y)] C I P L (NI C (XI (apR (I (m + 1)) v (rowB (I (m + 1)) w) 6) I P L)) := by
  obtain ⟨hBm, hKm, hK1, hK2, hK3, hK4, hK5, hK6, hK7, hK8, hK9, hK10, hK11, hP0, hP1, hP2, hP3, hP6, hP7, hP8, hP9, hP10, hP16, hP17⟩ := id hm
  refine en_I (by decide +kernel) (Nat.le_of_ble_eq_true rfl) ?_
  change Wd _ _ _ _ _ _ _ _ 0 [some _, some _, some _, none, none] [] _ _ _ _
  have loop : ∀ (n o : Nat) (i a : Int), o + n = 6 → i = (o : Int) → a = apR (I (m + 1)) v (rowB (I (m + 1)) w) o → Wd G yX12_apartOf cX12_apartOf 5 (some .int) 0 (C.2.1 + 0, C.2.2 + 0) (NI C (XI (apR (I (m + 1)) v (rowB (I (m + 1)) w) 6) I P L)) 5 [some (.ref m), some (.int (zI x)), some (.int (zI y)), some (.int (zI a)), some (.int (zI i))] [] C I P L := by
    intro n
    induction n with
    | zero =>
      intro o i a hd hi ha
      refine r_iload (pc := 5) dX12_apartOf_5 rfl ?_
      refine r_bipush (pc := 7) dX12_apartOf_7 (by decide) ?_
      refine r_icmp_ge (pc := 9) 59 dX12_apartOf_9 (by decide) (by omega) (by omega) (fun h9 => ?_) (fun h9 => ?_)
      · skip
        refine r_iload_n (pc := 59) dX12_apartOf_59 rfl ?_
        refine t_iret (pc := 60) dX12_apartOf_60 rfl rfl ?_
        exact ⟨by rw [ha, show o = 6 by omega], rfl, rfl, rfl⟩
      · exfalso; omega
    | succ n ih =>
      intro o i a hd hi ha
      have l1 := hBI.2.2.2.2.2.2 (6 * v + o) (by omega)
      have l2 := hBI.2.2.2.2.2.2 (6 * w + o) (by omega)
      have hst := ap_st (I (m + 1)) v (rowB (I (m + 1)) w) o
      have hrb : rowB (I (m + 1)) w o = I (m + 1) (91 + (6 * w + o)) := rfl
      rw [← ha, hrb] at hst
      refine r_iload (pc := 5) dX12_apartOf_5 rfl ?_
      refine r_bipush (pc := 7) dX12_apartOf_7 (by decide) ?_
      refine r_icmp_ge (pc := 9) 59 dX12_apartOf_9 (by decide) (by omega) (by omega) (fun h9 => ?_) (fun h9 => ?_)
      · exfalso; omega
      · skip
        refine r_iload_n (pc := 12) dX12_apartOf_12 rfl ?_
        refine r_aload_n (pc := 13) dX12_apartOf_13 rfl ?_
        refine r_getA (pc := 14) dX12_apartOf_14 frX12_7 (by assumption) (by assumption) ?_
        refine r_bipush (pc := 17) dX12_apartOf_17 (by decide) ?_
        refine r_bipush (pc := 19) dX12_apartOf_19 (by decide) ?_
        refine r_iload_n (pc := 21) dX12_apartOf_21 rfl ?_
        refine r_imul (pc := 22) dX12_apartOf_22 ?_
        refine r_iadd (pc := 23) dX12_apartOf_23 ?_
        refine r_iload (pc := 24) dX12_apartOf_24 rfl ?_
        refine r_iadd (pc := 26) dX12_apartOf_26 ?_
        refine r_iald (j := 91 + (6 * v + o)) (pc := 27) dX12_apartOf_27 (by assumption) (by omega) (by omega) (by omega) ?_
        refine r_aload_n (pc := 28) dX12_apartOf_28 rfl ?_
        refine r_getA (pc := 29) dX12_apartOf_29 frX12_7 (by assumption) (by assumption) ?_
        refine r_bipush (pc := 32) dX12_apartOf_32 (by decide) ?_
        refine r_bipush (pc := 34) dX12_apartOf_34 (by decide) ?_
        refine r_iload_n (pc := 36) dX12_apartOf_36 rfl ?_
        refine r_imul (pc := 37) dX12_apartOf_37 ?_
        refine r_iadd (pc := 38) dX12_apartOf_38 ?_
        refine r_iload (pc := 39) dX12_apartOf_39 rfl ?_
        refine r_iadd (pc := 41) dX12_apartOf_41 ?_
        refine r_iald (j := 91 + (6 * w + o)) (pc := 42) dX12_apartOf_42 (by assumption) (by omega) (by omega) (by omega) ?_
        refine r_icmp_ne (pc := 43) 50 dX12_apartOf_43 (by decide) (by omega) (by omega) (fun h43 => ?_) (fun h43 => ?_)
        · skip
          refine r_iconst (pc := 50) dX12_apartOf_50 ?_
          refine r_iadd (pc := 51) dX12_apartOf_51 ?_
          refine r_istore_n (pc := 52) dX12_apartOf_52 (by decide) ?_
          refine r_iinc (pc := 53) dX12_apartOf_53 rfl ?_
          refine r_goto (pc := 56) 5 dX12_apartOf_56 (by decide) ?_
          exact ih (o + 1) _ _ (by omega) (by omega) (by rw [hst, if_neg h43])
        · skip
          refine r_iconst (pc := 46) dX12_apartOf_46 ?_
          refine r_goto (pc := 47) 51 dX12_apartOf_47 (by decide) ?_
          refine r_iadd (pc := 51) dX12_apartOf_51 ?_
          refine r_istore_n (pc := 52) dX12_apartOf_52 (by decide) ?_
          refine r_iinc (pc := 53) dX12_apartOf_53 rfl ?_
          refine r_goto (pc := 56) 5 dX12_apartOf_56 (by decide) ?_
          exact ih (o + 1) _ _ (by omega) (by omega) (by rw [hst, if_pos h43])
  refine r_iconst (pc := 0) dX12_apartOf_0 ?_
  refine r_istore_n (pc := 1) dX12_apartOf_1 (by decide) ?_
  refine r_iconst (pc := 2) dX12_apartOf_2 ?_
  refine r_istore (pc := 3) dX12_apartOf_3 (by decide) ?_
  exact loop 6 0 _ _ (by omega) rfl rfl
def apartM (T : RS) (v w : Int) : Int × RS := if (0 ≤ v ∧ v ≤ T.1 90 - 1) ∧ (0 ≤ w ∧ w ≤ T.1 90 - 1) then (apR T.1 v.toNat (rowB T.1 w.toNat) 6, T) else (-2, zB T)
theorem sX12_apart {v w : Int} (hm : RfL G C P m := by assumption) (hBI : BI (I (m + 1)) := by assumption) (hv : iR v := by omega) (hw : iR w := by omega) : SX12_apart G [.ref m, .int (zI v), .int (zI w)] C I P L (NI C (QZ m (apartM (rdM m I L) v w).1 (apartM (rdM m I L) v w).2 P)) := by
  obtain ⟨hBm, hKm, hK1, hK2, hK3, hK4, hK5, hK6, hK7, hK8, hK9, hK10, hK11, hP0, hP1, hP2, hP3, hP6, hP7, hP8, hP9, hP10, hP16, hP17⟩ := id hm
  have w4 := hBI.2.2.2.1
  refine en_I (by decide +kernel) (Nat.le_of_ble_eq_true rfl) ?_
  change Wd _ _ _ _ _ _ _ _ 0 [some _, some _, some _] [] _ _ _ _
  refine r_aload_n (pc := 0) dX12_apart_0 rfl ?_
  refine r_iload_n (pc := 1) dX12_apart_1 rfl ?_
  refine i_V1ix (pc := 2) okX12_isWord inX12_isWord selX12_isWord q1357 dX12_apart_2 (by assumption) rfl (by decide) (Nat.le_of_ble_eq_true rfl) (sX12_isWord) ?_
  refine r_if_eq (pc := 5) 25 dX12_apart_5 (by decide) (by first | omega | (split <;> decide)) (fun h5 => ?_) (fun h5 => ?_)
  · skip
    refine r_aload_n (pc := 25) dX12_apart_25 rfl ?_
    refine r_bipush (pc := 26) dX12_apart_26 (by decide) ?_
    refine i_V1ix (pc := 28) okX12_bad inX12_bad selX12_bad q1101 dX12_apart_28 (by assumption) rfl (by decide) (Nat.le_of_ble_eq_true rfl) (sX12_bad) ?_
    refine t_iret (pc := 31) dX12_apart_31 rfl rfl ?_
    unfold apartM
    rw [rdM_1, if_neg (fun hz => by first | exact (wf h5) hz.1 | exact (wf h13) hz.2)]
    exact QZ_bad
  · skip
    refine r_aload_n (pc := 8) dX12_apart_8 rfl ?_
    refine r_iload_n (pc := 9) dX12_apart_9 rfl ?_
    refine i_V1ix (pc := 10) okX12_isWord inX12_isWord selX12_isWord q1357 dX12_apart_10 (by assumption) rfl (by decide) (Nat.le_of_ble_eq_true rfl) (sX12_isWord) ?_
    refine r_if_eq (pc := 13) 25 dX12_apart_13 (by decide) (by first | omega | (split <;> decide)) (fun h13 => ?_) (fun h13 => ?_)
    · skip
      refine r_aload_n (pc := 25) dX12_apart_25 rfl ?_
      refine r_bipush (pc := 26) dX12_apart_26 (by decide) ?_
      refine i_V1ix (pc := 28) okX12_bad inX12_bad selX12_bad q1101 dX12_apart_28 (by assumption) rfl (by decide) (Nat.le_of_ble_eq_true rfl) (sX12_bad) ?_
      refine t_iret (pc := 31) dX12_apart_31 rfl rfl ?_
      unfold apartM
      rw [rdM_1, if_neg (fun hz => by first | exact (wf h5) hz.1 | exact (wf h13) hz.2)]
      exact QZ_bad
    · skip
      have h1 := wt h5
      have h2 := wt h13
      refine r_aload_n (pc := 16) dX12_apart_16 rfl ?_
      refine r_iload_n (pc := 17) dX12_apart_17 rfl ?_
      refine r_iload_n (pc := 18) dX12_apart_18 rfl ?_
      refine i_V2ix (pc := 19) okX12_apartOf inX12_apartOf selX12_apartOf q1366 dX12_apart_19 (by assumption) rfl (by decide) (Nat.le_of_ble_eq_true rfl) (sX12_apartOf (v := v.toNat) (w := w.toNat)) ?_
      refine r_goto (pc := 22) 31 dX12_apart_22 (by decide) ?_
      refine t_iret (pc := 31) dX12_apart_31 rfl rfl ?_
      unfold apartM
      rw [rdM_1, if_pos ⟨h1, h2⟩]
      exact ⟨rfl, rfl, rfl⟩
def brI (B : Nat → Int) (v : Nat) (acc : Int) : Nat → Int
  | 0 => acc
  | k + 1 => if apR B v (rowB B (v + 1 + k)) 6 < brI B v acc k then apR B v (rowB B (v + 1 + k)) 6 else brI B v acc k
def brO (B : Nat → Int) (n : Nat) : Nat → Int
  | 0 => 1000000
  | v + 1 => brI B v (brO B n v) (n - (v + 1))
theorem brI_in (B : Nat → Int) (v : Nat) {acc : Int} (h : 0 ≤ acc ∧ acc ≤ 1000000) : ∀ k, 0 ≤ brI B v acc k ∧ brI B v acc k ≤ 1000000 := by
  intro k
  induction k with
  | zero => exact h
  | succ k ih => unfold brI; have := apR_in B v (rowB B (v + 1 + k)) 6; split <;> omega
theorem brO_in (B : Nat → Int) (n : Nat) : ∀ v, 0 ≤ brO B n v ∧ brO B n v ≤ 1000000 := by
  intro v
  induction v with
  | zero => show (0 : Int) ≤ 1000000 ∧ (1000000 : Int) ≤ 1000000; omega
  | succ v ih => exact brI_in B v ih _
def bearsM (T : RS) : Int := if brO T.1 (T.1 90).toNat (T.1 90).toNat = 1000000 then -1 else if brO T.1 (T.1 90).toNat (T.1 90).toNat = 0 then 0 else (brO T.1 (T.1 90).toNat (T.1 90).toNat - 1) / 2
theorem sX12_bears (hm : RfL G C P m := by assumption) (hBI : BI (I (m + 1)) := by assumption) : SX12_bears G [.ref m] C I P L (NI C (QZ m (bearsM (rdM m I L)) (rdM m I L) P)) := by
  obtain ⟨hBm, hKm, hK1, hK2, hK3, hK4, hK5, hK6, hK7, hK8, hK9, hK10, hK11, hP0, hP1, hP2, hP3, hP6, hP7, hP8, hP9, hP10, hP16, hP17⟩ := id hm
  have w4 := hBI.2.2.2.1
  obtain ⟨q, hq⟩ : ∃ q : Nat, I (m + 1) 90 = (q : Int) := ⟨(I (m + 1) 90).toNat, by omega⟩
  have eB : bearsM (rdM m I L) = if brO (I (m + 1)) q q = 1000000 then -1 else if brO (I (m + 1)) q q = 0 then 0 else (brO (I (m + 1)) q q - 1) / 2 := by
    unfold bearsM; rw [rdM_1, hq, Int.toNat_natCast]
  rw [eB]
  refine en_I (by decide +kernel) (Nat.le_of_ble_eq_true rfl) ?_
  change Wd _ _ _ _ _ _ _ _ 0 [some _, none, none, none] [] _ _ _ _
  have outer : ∀ (d v : Nat) (i a : Int) (w3 : Option Value), v + d = q → i = (v : Int) → a = brO (I (m + 1)) q v → Wd G yX12_bears cX12_bears 4 (some .int) 1 (C.2.1 + 0, C.2.2 + 0) (NI C (QZ m (if brO (I (m + 1)) q q = 1000000 then -1 else if brO (I (m + 1)) q q = 0 then 0 else (brO (I (m + 1)) q q - 1) / 2) (rdM m I L) P)) 5 [some (.ref m), some (.int (zI a)), some (.int (zI i)), w3] [] C I P L := by
    intro d
    induction d with
    | zero =>
      intro v i a w3 hd hi ha
      have hvq : v = q := by omega
      rw [hvq] at ha
      have hin := brO_in (I (m + 1)) q q
      rw [← ha] at hin ⊢
      refine r_iload_n (pc := 5) dX12_bears_5 rfl ?_
      refine r_aload_n (pc := 6) dX12_bears_6 rfl ?_
      refine r_getA (pc := 7) dX12_bears_7 frX12_7 (by assumption) (by assumption) ?_
      refine r_bipush (pc := 10) dX12_bears_10 (by decide) ?_
      refine r_iald (j := 90) (pc := 12) dX12_bears_12 (by assumption) rfl (by omega) (by omega) ?_
      refine r_icmp_ge (pc := 13) 64 dX12_bears_13 (by decide) (by omega) (by omega) (fun h13 => ?_) (fun h13 => ?_)
      · skip
        refine r_iload_n (pc := 64) dX12_bears_64 rfl ?_
        refine r_ldc (v := (1000000 : Int)) (pc := 65) dX12_bears_65 kcX12_236 ?_
        refine r_icmp_ne (pc := 67) 74 dX12_bears_67 (by decide) (by omega) (by omega) (fun h67 => ?_) (fun h67 => ?_)
        · skip
          refine r_iload_n (pc := 74) dX12_bears_74 rfl ?_
          refine r_if_ne (pc := 75) 82 dX12_bears_75 (by decide) (by omega) (fun h75 => ?_) (fun h75 => ?_)
          · skip
            refine r_iload_n (pc := 82) dX12_bears_82 rfl ?_
            refine r_iconst (pc := 83) dX12_bears_83 ?_
            refine r_isub (pc := 84) dX12_bears_84 ?_
            refine r_iconst (pc := 85) dX12_bears_85 ?_
            refine r_idiv (pc := 86) dX12_bears_86 (by omega) (by omega) (by omega) (by omega) ?_
            refine t_iret (pc := 87) dX12_bears_87 rfl rfl ?_
            refine ⟨?_, rfl, rfl⟩
            first
              | (rw [if_pos (by omega)])
              | (rw [if_neg (by omega), if_pos (by omega)])
              | (rw [if_neg (by omega), if_neg (by omega)])
          · skip
            refine r_iconst (pc := 78) dX12_bears_78 ?_
            refine r_goto (pc := 79) 87 dX12_bears_79 (by decide) ?_
            refine t_iret (pc := 87) dX12_bears_87 rfl rfl ?_
            refine ⟨?_, rfl, rfl⟩
            first
              | (rw [if_pos (by omega)])
              | (rw [if_neg (by omega), if_pos (by omega)])
              | (rw [if_neg (by omega), if_neg (by omega)])
        · skip
          refine r_iconst (pc := 70) dX12_bears_70 ?_
          refine r_goto (pc := 71) 87 dX12_bears_71 (by decide) ?_
          refine t_iret (pc := 87) dX12_bears_87 rfl rfl ?_
          refine ⟨?_, rfl, rfl⟩
          first
            | (rw [if_pos (by omega)])
            | (rw [if_neg (by omega), if_pos (by omega)])
            | (rw [if_neg (by omega), if_neg (by omega)])
      · exfalso; omega
    | succ d ih =>
      intro v i a w3 hd hi ha
      have inner : ∀ (e k : Nat) (j b : Int), v + 1 + k + e = q → j = (v : Int) + 1 + k → b = brI (I (m + 1)) v a k → Wd G yX12_bears cX12_bears 4 (some .int) 1 (C.2.1 + 0, C.2.2 + 0) (NI C (QZ m (if brO (I (m + 1)) q q = 1000000 then -1 else if brO (I (m + 1)) q q = 0 then 0 else (brO (I (m + 1)) q q - 1) / 2) (rdM m I L) P)) 20 [some (.ref m), some (.int (zI b)), some (.int (zI i)), some (.int (zI j))] [] C I P L := by
        intro e
        induction e with
        | zero =>
          intro k j b hk hj hb
          refine r_iload_n (pc := 20) dX12_bears_20 rfl ?_
          refine r_aload_n (pc := 21) dX12_bears_21 rfl ?_
          refine r_getA (pc := 22) dX12_bears_22 frX12_7 (by assumption) (by assumption) ?_
          refine r_bipush (pc := 25) dX12_bears_25 (by decide) ?_
          refine r_iald (j := 90) (pc := 27) dX12_bears_27 (by assumption) rfl (by omega) (by omega) ?_
          refine r_icmp_ge (pc := 28) 58 dX12_bears_28 (by decide) (by omega) (by omega) (fun h28 => ?_) (fun h28 => ?_)
          · skip
            refine r_iinc (pc := 58) dX12_bears_58 rfl ?_
            refine r_goto (pc := 61) 5 dX12_bears_61 (by decide) ?_
            refine ih (v + 1) _ _ _ (by omega) (by omega) ?_
            rw [hb, ha, brO, show q - (v + 1) = k by omega]
          · exfalso; omega
        | succ e ihe =>
          intro k j b hk hj hb
          have hin := apR_in (I (m + 1)) v (rowB (I (m + 1)) (v + 1 + k)) 6
          have hbi := brI_in (I (m + 1)) v (acc := a) (by rw [ha]; exact brO_in _ _ _) k
          rw [← hb] at hbi
          have hst : brI (I (m + 1)) v a (k + 1) = if apR (I (m + 1)) v (rowB (I (m + 1)) (v + 1 + k)) 6 < b then apR (I (m + 1)) v (rowB (I (m + 1)) (v + 1 + k)) 6 else b := by rw [brI, ← hb]
          refine r_iload_n (pc := 20) dX12_bears_20 rfl ?_
          refine r_aload_n (pc := 21) dX12_bears_21 rfl ?_
          refine r_getA (pc := 22) dX12_bears_22 frX12_7 (by assumption) (by assumption) ?_
          refine r_bipush (pc := 25) dX12_bears_25 (by decide) ?_
          refine r_iald (j := 90) (pc := 27) dX12_bears_27 (by assumption) rfl (by omega) (by omega) ?_
          refine r_icmp_ge (pc := 28) 58 dX12_bears_28 (by decide) (by omega) (by omega) (fun h28 => ?_) (fun h28 => ?_)
          · exfalso; omega
          · skip
            refine r_aload_n (pc := 31) dX12_bears_31 rfl ?_
            refine r_iload_n (pc := 32) dX12_bears_32 rfl ?_
            refine r_iload_n (pc := 33) dX12_bears_33 rfl ?_
            refine i_V2ix (pc := 34) okX12_apartOf inX12_apartOf selX12_apartOf q1366 dX12_bears_34 (by assumption) rfl (by decide) (Nat.le_of_ble_eq_true rfl) (sX12_apartOf (v := v) (w := v + 1 + k)) ?_
            refine r_iload_n (pc := 37) dX12_bears_37 rfl ?_
            refine r_icmp_ge (pc := 38) 50 dX12_bears_38 (by decide) (by omega) (by omega) (fun h38 => ?_) (fun h38 => ?_)
            · skip
              refine r_iload_n (pc := 50) dX12_bears_50 rfl ?_
              refine r_istore_n (pc := 51) dX12_bears_51 (by decide) ?_
              refine r_iinc (pc := 52) dX12_bears_52 rfl ?_
              refine r_goto (pc := 55) 20 dX12_bears_55 (by decide) ?_
              exact ihe (k + 1) _ _ (by omega) (by omega) (by rw [hst, if_neg (by omega)])
            · skip
              refine r_aload_n (pc := 41) dX12_bears_41 rfl ?_
              refine r_iload_n (pc := 42) dX12_bears_42 rfl ?_
              refine r_iload_n (pc := 43) dX12_bears_43 rfl ?_
              refine i_V2ix (pc := 44) okX12_apartOf inX12_apartOf selX12_apartOf q1366 dX12_bears_44 (by assumption) rfl (by decide) (Nat.le_of_ble_eq_true rfl) (sX12_apartOf (v := v) (w := v + 1 + k)) ?_
              refine r_goto (pc := 47) 51 dX12_bears_47 (by decide) ?_
              refine r_istore_n (pc := 51) dX12_bears_51 (by decide) ?_
              refine r_iinc (pc := 52) dX12_bears_52 rfl ?_
              refine r_goto (pc := 55) 20 dX12_bears_55 (by decide) ?_
              exact ihe (k + 1) _ _ (by omega) (by omega) (by rw [hst, if_pos (by omega)])
      refine r_iload_n (pc := 5) dX12_bears_5 rfl ?_
      refine r_aload_n (pc := 6) dX12_bears_6 rfl ?_
      refine r_getA (pc := 7) dX12_bears_7 frX12_7 (by assumption) (by assumption) ?_
      refine r_bipush (pc := 10) dX12_bears_10 (by decide) ?_
      refine r_iald (j := 90) (pc := 12) dX12_bears_12 (by assumption) rfl (by omega) (by omega) ?_
      refine r_icmp_ge (pc := 13) 64 dX12_bears_13 (by decide) (by omega) (by omega) (fun h13 => ?_) (fun h13 => ?_)
      · exfalso; omega
      · skip
        refine r_iload_n (pc := 16) dX12_bears_16 rfl ?_
        refine r_iconst (pc := 17) dX12_bears_17 ?_
        refine r_iadd (pc := 18) dX12_bears_18 ?_
        refine r_istore_n (pc := 19) dX12_bears_19 (by decide) ?_
        exact inner d 0 _ _ (by omega) (by omega) rfl
  refine r_ldc (v := (1000000 : Int)) (pc := 0) dX12_bears_0 kcX12_236 ?_
  refine r_istore_n (pc := 2) dX12_bears_2 (by decide) ?_
  refine r_iconst (pc := 3) dX12_bears_3 ?_
  refine r_istore_n (pc := 4) dX12_bears_4 (by decide) ?_
  exact outer q 0 _ _ _ (by omega) rfl rfl
def meantM (T : RS) (R : Nat → Int) : Int × RS := if letN R 6 = true then ((nwF T.1 R (T.1 90).toNat).1, T) else (-2, zB T)
theorem nw_st (B R : Nat → Int) (w : Nat) : nwF B R (w + 1) = if apR B w R 6 < (nwF B R w).2 then ((w : Int), apR B w R 6) else nwF B R w := rfl
theorem sX12_meant {a b c d e f : Int} (hm : RfL G C P m := by assumption) (hBI : BI (I (m + 1)) := by assumption) (ha : iR a := by omega) (hb : iR b := by omega) (hc : iR c := by omega) (hd : iR d := by omega) (he : iR e := by omega) (hf : iR f := by omega) : SX12_meant G [.ref m, .int (zI a), .int (zI b), .int (zI c), .int (zI d), .int (zI e), .int (zI f)] C I P L (NI C (QZ m (meantM (rdM m I L) (rowL a b c d e f)).1 (meantM (rdM m I L) (rowL a b c d e f)).2 P)) := by
  obtain ⟨hBm, hKm, hK1, hK2, hK3, hK4, hK5, hK6, hK7, hK8, hK9, hK10, hK11, hP0, hP1, hP2, hP3, hP6, hP7, hP8, hP9, hP10, hP16, hP17⟩ := id hm
  have nb : ∀ b : Bool, iR (if b = true then 1 else 0) := fun b => by cases b <;> decide
  have w4 := hBI.2.2.2.1
  have hiR : ∀ k, iR (rowL a b c d e f k) := fun k => by unfold rowL; (repeat' split) <;> assumption
  obtain ⟨q, hq⟩ : ∃ q : Nat, I (m + 1) 90 = (q : Int) := ⟨(I (m + 1) 90).toNat, by omega⟩
  refine en_I (by decide +kernel) (Nat.le_of_ble_eq_true rfl) ?_
  change Wd _ _ _ _ _ _ _ _ 0 [some _, some _, some _, some _, some _, some _, some _, none, none, none, none, none] [] _ _ _ _
  have outer : ∀ (W : Nat → Int), (∀ k, k < 6 → W k = rowL a b c d e f k) → letN (rowL a b c d e f) 6 = true → ∀ (n w : Nat) (i x y : Int) (w10 w11 : Option Value), w + n = q → i = (w : Int) → x = (nwF (I (m + 1)) (rowL a b c d e f) w).1 → (w = 0 ∧ y = 1000000 ∨ 0 < w ∧ y = (nwF (I (m + 1)) (rowL a b c d e f) w).2 ∧ y ≤ 6) → Wd G yX12_meant cX12_meant 12 (some .int) 2 (C.2.1 + 0, C.2.2 + 0) (NI C (QZ m (meantM (rdM m I L) (rowL a b c d e f)).1 (meantM (rdM m I L) (rowL a b c d e f)).2 P)) 33 [some (.ref m), some (.int (zI a)), some (.int (zI b)), some (.int (zI c)), some (.int (zI d)), some (.int (zI e)), some (.int (zI f)), some (.int (zI x)), some (.int (zI y)), some (.int (zI i)), w10, w11] [] C (uR I (m + 8) W) P L := by
    intro W hW hl n
    induction n with
    | zero =>
      intro w i x y w10 w11 hd hi hx hy
      refine r_iload (pc := 33) dX12_meant_33 rfl ?_
      refine r_aload_n (pc := 35) dX12_meant_35 rfl ?_
      refine r_getA (pc := 36) dX12_meant_36 frX12_7 (by assumption) (by assumption) ?_
      refine r_bipush (pc := 39) dX12_meant_39 (by decide) ?_
      refine r_iald (j := 90) (pc := 41) dX12_meant_41 (by assumption) rfl (by omega) (by omega) ?_
      try simp only [u2_I, uR_uR, uR_app, eq_self, Nat.reduceEqDiff, Nat.add_eq_left, Nat.left_eq_add, ↓reduceIte]
      refine r_icmp_ge (pc := 42) 138 dX12_meant_42 (by decide) (by omega) (by omega) (fun h42 => ?_) (fun h42 => ?_)
      · skip
        refine r_iload (pc := 138) dX12_meant_138 rfl ?_
        refine t_iret (pc := 140) dX12_meant_140 rfl rfl ?_
        unfold meantM
        rw [if_pos hl, rdM_1, hq, Int.toNat_natCast]
        exact ⟨by rw [hx, show w = q by omega], rdM_8 m I L W, rfl⟩
      · exfalso; omega
    | succ n ih =>
      intro w i x y w10 w11 hd hi hx hy
      have hnw := nwF_in (I (m + 1)) (rowL a b c d e f) w
      have hyr : iR y := by omega
      have inner : ∀ (z o : Nat) (j s : Int), o + z = 6 → j = (o : Int) → s = apR (I (m + 1)) w (rowL a b c d e f) o → Wd G yX12_meant cX12_meant 12 (some .int) 2 (C.2.1 + 0, C.2.2 + 0) (NI C (QZ m (meantM (rdM m I L) (rowL a b c d e f)).1 (meantM (rdM m I L) (rowL a b c d e f)).2 P)) 51 [some (.ref m), some (.int (zI a)), some (.int (zI b)), some (.int (zI c)), some (.int (zI d)), some (.int (zI e)), some (.int (zI f)), some (.int (zI x)), some (.int (zI y)), some (.int (zI i)), some (.int (zI s)), some (.int (zI j))] [] C (uR I (m + 8) W) P L := by
        intro z
        induction z with
        | zero =>
          intro o j s ho hj hs
          rw [show o = 6 by omega] at hs
          have hin := apR_in (I (m + 1)) w (rowL a b c d e f) 6
          have hst := nw_st (I (m + 1)) (rowL a b c d e f) w
          rw [← hs] at hin hst
          have e0 : w = 0 → (nwF (I (m + 1)) (rowL a b c d e f) w).2 = 7 := fun h => by rw [h]; rfl
          refine r_iload (pc := 51) dX12_meant_51 rfl ?_
          refine r_bipush (pc := 53) dX12_meant_53 (by decide) ?_
          refine r_icmp_ge (pc := 55) 100 dX12_meant_55 (by decide) (by omega) (by omega) (fun h55 => ?_) (fun h55 => ?_)
          · skip
            refine r_iload (pc := 100) dX12_meant_100 rfl ?_
            refine r_iload (pc := 102) dX12_meant_102 rfl ?_
            refine r_icmp_ge (pc := 104) 112 dX12_meant_104 (by decide) (by omega) (by omega) (fun h104 => ?_) (fun h104 => ?_)
            · skip
              refine r_iload (pc := 112) dX12_meant_112 rfl ?_
              refine r_istore (pc := 114) dX12_meant_114 (by decide) ?_
              refine r_iload (pc := 116) dX12_meant_116 rfl ?_
              refine r_iload (pc := 118) dX12_meant_118 rfl ?_
              refine r_icmp_ge (pc := 120) 128 dX12_meant_120 (by decide) (by omega) (by omega) (fun h120 => ?_) (fun h120 => ?_)
              · skip
                refine r_iload (pc := 128) dX12_meant_128 rfl ?_
                refine r_istore (pc := 130) dX12_meant_130 (by decide) ?_
                refine r_iinc (pc := 132) dX12_meant_132 rfl ?_
                refine r_goto (pc := 135) 33 dX12_meant_135 (by decide) ?_
                first
                | (exfalso; omega)
                | (refine ih (w + 1) _ _ _ _ _ (by omega) (by omega) (by rw [hst, if_neg (by omega)]; exact hx) (Or.inr ⟨by omega, by rw [hst, if_neg (by omega)]; omega, by omega⟩))
              · skip
                refine r_iload (pc := 123) dX12_meant_123 rfl ?_
                refine r_goto (pc := 125) 130 dX12_meant_125 (by decide) ?_
                refine r_istore (pc := 130) dX12_meant_130 (by decide) ?_
                refine r_iinc (pc := 132) dX12_meant_132 rfl ?_
                refine r_goto (pc := 135) 33 dX12_meant_135 (by decide) ?_
                first
                | (exfalso; omega)
                | (refine ih (w + 1) _ _ _ _ _ (by omega) (by omega) (by rw [hst, if_pos (by omega)]; exact hi) (Or.inr ⟨by omega, by rw [hst, if_pos (by omega)], by omega⟩))
            · skip
              refine r_iload (pc := 107) dX12_meant_107 rfl ?_
              refine r_goto (pc := 109) 114 dX12_meant_109 (by decide) ?_
              refine r_istore (pc := 114) dX12_meant_114 (by decide) ?_
              refine r_iload (pc := 116) dX12_meant_116 rfl ?_
              refine r_iload (pc := 118) dX12_meant_118 rfl ?_
              refine r_icmp_ge (pc := 120) 128 dX12_meant_120 (by decide) (by omega) (by omega) (fun h120 => ?_) (fun h120 => ?_)
              · skip
                refine r_iload (pc := 128) dX12_meant_128 rfl ?_
                refine r_istore (pc := 130) dX12_meant_130 (by decide) ?_
                refine r_iinc (pc := 132) dX12_meant_132 rfl ?_
                refine r_goto (pc := 135) 33 dX12_meant_135 (by decide) ?_
                exfalso; omega
              · skip
                refine r_iload (pc := 123) dX12_meant_123 rfl ?_
                refine r_goto (pc := 125) 130 dX12_meant_125 (by decide) ?_
                refine r_istore (pc := 130) dX12_meant_130 (by decide) ?_
                refine r_iinc (pc := 132) dX12_meant_132 rfl ?_
                refine r_goto (pc := 135) 33 dX12_meant_135 (by decide) ?_
                first
                | (exfalso; omega)
                | (refine ih (w + 1) _ _ _ _ _ (by omega) (by omega) (by rw [hst, if_pos (by omega)]; exact hi) (Or.inr ⟨by omega, by rw [hst, if_pos (by omega)], by omega⟩))
          · exfalso; omega
        | succ z ihz =>
          intro o j s ho hj hs
          have ho6 : o < 6 := by omega
          have l1 := hBI.2.2.2.2.2.2 (6 * w + o) (by omega)
          have hWo := hW o ho6
          have hRo := hiR o
          have hst := ap_st (I (m + 1)) w (rowL a b c d e f) o
          rw [← hs] at hst
          refine r_iload (pc := 51) dX12_meant_51 rfl ?_
          refine r_bipush (pc := 53) dX12_meant_53 (by decide) ?_
          refine r_icmp_ge (pc := 55) 100 dX12_meant_55 (by decide) (by omega) (by omega) (fun h55 => ?_) (fun h55 => ?_)
          · exfalso; omega
          · skip
            refine r_iload (pc := 58) dX12_meant_58 rfl ?_
            refine r_aload_n (pc := 60) dX12_meant_60 rfl ?_
            refine r_getA (pc := 61) dX12_meant_61 frX12_7 (by assumption) (by assumption) ?_
            refine r_bipush (pc := 64) dX12_meant_64 (by decide) ?_
            refine r_bipush (pc := 66) dX12_meant_66 (by decide) ?_
            refine r_iload (pc := 68) dX12_meant_68 rfl ?_
            refine r_imul (pc := 70) dX12_meant_70 ?_
            refine r_iadd (pc := 71) dX12_meant_71 ?_
            refine r_iload (pc := 72) dX12_meant_72 rfl ?_
            refine r_iadd (pc := 74) dX12_meant_74 ?_
            refine r_iald (j := 91 + (6 * w + o)) (pc := 75) dX12_meant_75 (by assumption) (by omega) (by omega) (by omega) ?_
            try simp only [u2_I, uR_uR, uR_app, eq_self, Nat.reduceEqDiff, Nat.add_eq_left, Nat.left_eq_add, ↓reduceIte]
            refine r_aload_n (pc := 76) dX12_meant_76 rfl ?_
            refine r_getA (pc := 77) dX12_meant_77 frX12_36 (by assumption) (by assumption) ?_
            refine r_iload (pc := 80) dX12_meant_80 rfl ?_
            refine r_iald (j := o) (pc := 82) dX12_meant_82 (by assumption) (by omega) (by omega) (by omega) ?_
            try simp only [u2_I, uR_uR, uR_app, eq_self, Nat.reduceEqDiff, Nat.add_eq_left, Nat.left_eq_add, ↓reduceIte]
            rw [hWo]
            refine r_icmp_ne (pc := 83) 90 dX12_meant_83 (by decide) (by omega) (by omega) (fun h83 => ?_) (fun h83 => ?_)
            · skip
              refine r_iconst (pc := 90) dX12_meant_90 ?_
              refine r_iadd (pc := 91) dX12_meant_91 ?_
              refine r_istore (pc := 92) dX12_meant_92 (by decide) ?_
              refine r_iinc (pc := 94) dX12_meant_94 rfl ?_
              refine r_goto (pc := 97) 51 dX12_meant_97 (by decide) ?_
              exact ihz (o + 1) _ _ (by omega) (by omega) (by rw [hst, if_neg h83])
            · skip
              refine r_iconst (pc := 86) dX12_meant_86 ?_
              refine r_goto (pc := 87) 91 dX12_meant_87 (by decide) ?_
              refine r_iadd (pc := 91) dX12_meant_91 ?_
              refine r_istore (pc := 92) dX12_meant_92 (by decide) ?_
              refine r_iinc (pc := 94) dX12_meant_94 rfl ?_
              refine r_goto (pc := 97) 51 dX12_meant_97 (by decide) ?_
              exact ihz (o + 1) _ _ (by omega) (by omega) (by rw [hst, if_pos h83])
      refine r_iload (pc := 33) dX12_meant_33 rfl ?_
      refine r_aload_n (pc := 35) dX12_meant_35 rfl ?_
      refine r_getA (pc := 36) dX12_meant_36 frX12_7 (by assumption) (by assumption) ?_
      refine r_bipush (pc := 39) dX12_meant_39 (by decide) ?_
      refine r_iald (j := 90) (pc := 41) dX12_meant_41 (by assumption) rfl (by omega) (by omega) ?_
      try simp only [u2_I, uR_uR, uR_app, eq_self, Nat.reduceEqDiff, Nat.add_eq_left, Nat.left_eq_add, ↓reduceIte]
      refine r_icmp_ge (pc := 42) 138 dX12_meant_42 (by decide) (by omega) (by omega) (fun h42 => ?_) (fun h42 => ?_)
      · exfalso; omega
      · skip
        refine r_iconst (pc := 45) dX12_meant_45 ?_
        refine r_istore (pc := 46) dX12_meant_46 (by decide) ?_
        refine r_iconst (pc := 48) dX12_meant_48 ?_
        refine r_istore (pc := 49) dX12_meant_49 (by decide) ?_
        exact inner 6 0 _ _ (by omega) rfl rfl
  refine r_aload_n (pc := 0) dX12_meant_0 rfl ?_
  refine r_iload_n (pc := 1) dX12_meant_1 rfl ?_
  refine r_iload_n (pc := 2) dX12_meant_2 rfl ?_
  refine r_iload_n (pc := 3) dX12_meant_3 rfl ?_
  refine r_iload (pc := 4) dX12_meant_4 rfl ?_
  refine r_iload (pc := 6) dX12_meant_6 rfl ?_
  refine r_iload (pc := 8) dX12_meant_8 rfl ?_
  refine i_V6ig (pc := 10) okX12_hears inX12_hears selX12_hears q1348 dX12_meant_10 (by assumption) rfl (by decide) (Nat.le_of_ble_eq_true rfl) (sX12_hears) (fun r1 I1 P1 L1 hq1 => ?_)
  obtain ⟨rfl, hrow, ⟨W, rfl⟩, rfl, rfl⟩ := hq1
  have hWr : ∀ k, k < 6 → W k = rowL a b c d e f k := fun k hk => by have := hrow k hk; rwa [uR_s] at this
  try simp only [u2_I, uR_uR, uR_app, eq_self, Nat.reduceEqDiff, Nat.add_eq_left, Nat.left_eq_add, ↓reduceIte]
  refine r_if_ne (pc := 13) 23 dX12_meant_13 (by decide) (by first | omega | exact nb _) (fun h13 => ?_) (fun h13 => ?_)
  · skip
    refine r_iconst (pc := 23) dX12_meant_23 ?_
    refine r_istore (pc := 24) dX12_meant_24 (by decide) ?_
    refine r_ldc (v := (1000000 : Int)) (pc := 26) dX12_meant_26 kcX12_236 ?_
    refine r_istore (pc := 28) dX12_meant_28 (by decide) ?_
    refine r_iconst (pc := 30) dX12_meant_30 ?_
    refine r_istore (pc := 31) dX12_meant_31 (by decide) ?_
    exact outer W hWr (bt h13) q 0 _ _ _ _ _ (by omega) rfl rfl (Or.inl ⟨rfl, rfl⟩)
  · skip
    refine r_aload_n (pc := 16) dX12_meant_16 rfl ?_
    refine r_bipush (pc := 17) dX12_meant_17 (by decide) ?_
    refine i_V1ix (pc := 19) okX12_bad inX12_bad selX12_bad q1101 dX12_meant_19 (by assumption) rfl (by decide) (Nat.le_of_ble_eq_true rfl) (sX12_bad) ?_
    try simp only [u2_I, uR_uR, uR_app, eq_self, Nat.reduceEqDiff, Nat.add_eq_left, Nat.left_eq_add, ↓reduceIte]
    refine t_iret (pc := 22) dX12_meant_22 rfl rfl ?_
    unfold meantM
    rw [if_neg (bf h13)]
    have q := QZ_bad (m := m) (e := -2) (I := uR I (m + 8) W) (P := P) (L := L)
    rw [rdM_8, uR_n I W (show m + 4 ≠ m + 8 by omega)] at q
    exact q
theorem noon_away {F : Nat → Int} {t : Int} (h0 : 2 ≤ F 0) (h1 : 0 ≤ F 1) (ht : 0 ≤ t) : noonF F (F 1 + t) = decide (t % F 0 = awayF F) := by
  unfold noonF awayF
  congr 1
  have a0 := Int.emod_nonneg (F 1) (show F 0 ≠ 0 by omega)
  have a1 := Int.emod_lt_of_pos (F 1) (show 0 < F 0 by omega)
  have b0 := Int.emod_nonneg t (show F 0 ≠ 0 by omega)
  have b1 := Int.emod_lt_of_pos t (show 0 < F 0 by omega)
  rw [Int.add_emod]
  generalize F 1 % F 0 = a at a0 a1
  generalize t % F 0 = b at b0 b1
  apply propext
  by_cases hh : a + b < F 0
  · rw [Int.emod_eq_of_lt (by omega) hh]; omega
  · have e : (a + b) % F 0 = a + b - F 0 := by
      rw [← Int.sub_emod_right]; exact Int.emod_eq_of_lt (by omega) (by omega)
    rw [e]; omega
def meetM (T : RS) (z r : Int) : Int × RS := if (2 ≤ z ∧ z ≤ 70) ∧ (0 ≤ r ∧ r ≤ z - 1) then (meetF (T.1 0) (awayF T.1) z 100 r, T) else (-2, zB T)
theorem sX12_meet {z r : Int} (hm : RfL G C P m := by assumption) (hF : FI (I (m + 1)) Y := by assumption) (hY : Y ≤ 900000 := by omega) (hz' : iR z := by omega) (hr' : iR r := by omega) : SX12_meet G [.ref m, .int (zI z), .int (zI r)] C I P L (NI C (QZ m (meetM (rdM m I L) z r).1 (meetM (rdM m I L) z r).2 P)) := by
  obtain ⟨hBm, hKm, hK1, hK2, hK3, hK4, hK5, hK6, hK7, hK8, hK9, hK10, hK11, hP0, hP1, hP2, hP3, hP6, hP7, hP8, hP9, hP10, hP16, hP17⟩ := id hm
  have hsp := hF.1
  have hy1 := hF.2.1
  have nb : ∀ b : Bool, iR (if b = true then 1 else 0) := fun b => by cases b <;> decide
  refine en_I (by decide +kernel) (Nat.le_of_ble_eq_true rfl) ?_
  change Wd _ _ _ _ _ _ _ _ 0 [some _, some _, some _, none] [] _ _ _ _
  have loop : (2 ≤ z ∧ z ≤ 70) ∧ (0 ≤ r ∧ r ≤ z - 1) → ∀ (d : Nat) (t : Int), 0 ≤ t → t < 5100 → I (m + 1) 0 * z ≤ t + z * (d : Int) → meetF (I (m + 1) 0) (awayF (I (m + 1))) z 100 r = meetF (I (m + 1) 0) (awayF (I (m + 1))) z (d + 1) t → Wd G yX12_meet cX12_meet 4 (some .int) 1 (C.2.1 + 0, C.2.2 + 0) (NI C (QZ m (meetM (rdM m I L) z r).1 (meetM (rdM m I L) z r).2 P)) 36 [some (.ref m), some (.int (zI z)), some (.int (zI r)), some (.int (zI t))] [] C I P L := by
    intro hz d
    have hM0 : 0 ≤ I (m + 1) 0 * z := Int.mul_nonneg (by omega) (by omega)
    have hM1 : I (m + 1) 0 * z ≤ 70 * z := Int.mul_le_mul_of_nonneg_right hsp.2 (by omega)
    have hcm : z * I (m + 1) 0 = I (m + 1) 0 * z := Int.mul_comm _ _
    have hS : meetM (rdM m I L) z r = (meetF (I (m + 1) 0) (awayF (I (m + 1))) z 100 r, rdM m I L) := by
      unfold meetM; rw [if_pos hz, rdM_1]
    rw [hS]
    induction d with
    | zero =>
      intro t ht0 ht1 hb he
      refine r_iload_n (pc := 36) dX12_meet_36 rfl ?_
      refine r_iload_n (pc := 37) dX12_meet_37 rfl ?_
      refine r_aload_n (pc := 38) dX12_meet_38 rfl ?_
      refine r_getA (pc := 39) dX12_meet_39 frX12_7 (by assumption) (by assumption) ?_
      refine r_iconst (pc := 42) dX12_meet_42 ?_
      refine r_iald (j := 0) (pc := 43) dX12_meet_43 (by assumption) rfl (by omega) (by omega) ?_
      refine r_imul (pc := 44) dX12_meet_44 ?_
      rw [hcm]
      refine r_icmp_ge (pc := 45) 70 dX12_meet_45 (by decide) (by omega) (by omega) (fun h45 => ?_) (fun h45 => ?_)
      · skip
        refine r_iload_n (pc := 70) dX12_meet_70 rfl ?_
        refine r_iload_n (pc := 71) dX12_meet_71 rfl ?_
        refine r_aload_n (pc := 72) dX12_meet_72 rfl ?_
        refine r_getA (pc := 73) dX12_meet_73 frX12_7 (by assumption) (by assumption) ?_
        refine r_iconst (pc := 76) dX12_meet_76 ?_
        refine r_iald (j := 0) (pc := 77) dX12_meet_77 (by assumption) rfl (by omega) (by omega) ?_
        refine r_imul (pc := 78) dX12_meet_78 ?_
        rw [hcm]
        refine r_icmp_ge (pc := 79) 86 dX12_meet_79 (by decide) (by omega) (by omega) (fun h79 => ?_) (fun h79 => ?_)
        · skip
          refine r_iconst (pc := 86) dX12_meet_86 ?_
          refine t_iret (pc := 87) dX12_meet_87 rfl rfl ?_
          refine ⟨?_, rfl, rfl⟩
          show (-1 : Int) = meetF (I (m + 1) 0) (awayF (I (m + 1))) z 100 r
          rw [he, meetF, if_neg (by omega)]
        · exfalso; omega
      · exfalso; omega
    | succ d ih =>
      intro t ht0 ht1 hb he
      have hb2 : I (m + 1) 0 * z ≤ t + z + z * (d : Int) := by
        rw [show ((d + 1 : Nat) : Int) = (d : Int) + 1 by omega, Int.mul_add, Int.mul_one] at hb; omega
      have hna := noon_away (F := I (m + 1)) (t := t) hsp.1 hy1.1 ht0
      refine r_iload_n (pc := 36) dX12_meet_36 rfl ?_
      refine r_iload_n (pc := 37) dX12_meet_37 rfl ?_
      refine r_aload_n (pc := 38) dX12_meet_38 rfl ?_
      refine r_getA (pc := 39) dX12_meet_39 frX12_7 (by assumption) (by assumption) ?_
      refine r_iconst (pc := 42) dX12_meet_42 ?_
      refine r_iald (j := 0) (pc := 43) dX12_meet_43 (by assumption) rfl (by first | omega | exact nb _) (by omega) ?_
      refine r_imul (pc := 44) dX12_meet_44 ?_
      rw [hcm]
      refine r_icmp_ge (pc := 45) 70 dX12_meet_45 (by decide) (by first | omega | exact nb _) (by first | omega | exact nb _) (fun h45 => ?_) (fun h45 => ?_)
      · skip
        refine r_iload_n (pc := 70) dX12_meet_70 rfl ?_
        refine r_iload_n (pc := 71) dX12_meet_71 rfl ?_
        refine r_aload_n (pc := 72) dX12_meet_72 rfl ?_
        refine r_getA (pc := 73) dX12_meet_73 frX12_7 (by assumption) (by assumption) ?_
        refine r_iconst (pc := 76) dX12_meet_76 ?_
        refine r_iald (j := 0) (pc := 77) dX12_meet_77 (by assumption) rfl (by first | omega | exact nb _) (by omega) ?_
        refine r_imul (pc := 78) dX12_meet_78 ?_
        rw [hcm]
        refine r_icmp_ge (pc := 79) 86 dX12_meet_79 (by decide) (by first | omega | exact nb _) (by first | omega | exact nb _) (fun h79 => ?_) (fun h79 => ?_)
        · skip
          refine r_iconst (pc := 86) dX12_meet_86 ?_
          refine t_iret (pc := 87) dX12_meet_87 rfl rfl ?_
          refine ⟨?_, rfl, rfl⟩
          show (-1 : Int) = meetF (I (m + 1) 0) (awayF (I (m + 1))) z 100 r
          rw [he, meetF, if_neg (by omega)]
        · skip
          refine r_iload_n (pc := 82) dX12_meet_82 rfl ?_
          refine r_goto (pc := 83) 87 dX12_meet_83 (by decide) ?_
          refine t_iret (pc := 87) dX12_meet_87 rfl rfl ?_
          refine ⟨?_, rfl, rfl⟩
          show t = meetF (I (m + 1) 0) (awayF (I (m + 1))) z 100 r
          first
            | (exfalso; omega)
            | (rw [he, meetF, if_pos (by omega), if_pos (by have hh := bt h60; rw [hna] at hh; exact of_decide_eq_true hh)])
      · skip
        refine r_aload_n (pc := 48) dX12_meet_48 rfl ?_
        refine r_aload_n (pc := 49) dX12_meet_49 rfl ?_
        refine r_getA (pc := 50) dX12_meet_50 frX12_7 (by assumption) (by assumption) ?_
        refine r_iconst (pc := 53) dX12_meet_53 ?_
        refine r_iald (j := 1) (pc := 54) dX12_meet_54 (by assumption) rfl (by first | omega | exact nb _) (by omega) ?_
        refine r_iload_n (pc := 55) dX12_meet_55 rfl ?_
        refine r_iadd (pc := 56) dX12_meet_56 ?_
        refine i_V1ix (pc := 57) okX12_isNoon inX12_isNoon selX12_isNoon q1153 dX12_meet_57 (by assumption) rfl (by decide) (Nat.le_of_ble_eq_true rfl) (sX12_isNoon) ?_
        refine r_if_ne (pc := 60) 70 dX12_meet_60 (by decide) (by first | omega | exact nb _) (fun h60 => ?_) (fun h60 => ?_)
        · skip
          refine r_iload_n (pc := 70) dX12_meet_70 rfl ?_
          refine r_iload_n (pc := 71) dX12_meet_71 rfl ?_
          refine r_aload_n (pc := 72) dX12_meet_72 rfl ?_
          refine r_getA (pc := 73) dX12_meet_73 frX12_7 (by assumption) (by assumption) ?_
          refine r_iconst (pc := 76) dX12_meet_76 ?_
          refine r_iald (j := 0) (pc := 77) dX12_meet_77 (by assumption) rfl (by first | omega | exact nb _) (by omega) ?_
          refine r_imul (pc := 78) dX12_meet_78 ?_
          rw [hcm]
          refine r_icmp_ge (pc := 79) 86 dX12_meet_79 (by decide) (by first | omega | exact nb _) (by first | omega | exact nb _) (fun h79 => ?_) (fun h79 => ?_)
          · skip
            refine r_iconst (pc := 86) dX12_meet_86 ?_
            refine t_iret (pc := 87) dX12_meet_87 rfl rfl ?_
            refine ⟨?_, rfl, rfl⟩
            show (-1 : Int) = meetF (I (m + 1) 0) (awayF (I (m + 1))) z 100 r
            rw [he, meetF, if_neg (by omega)]
          · skip
            refine r_iload_n (pc := 82) dX12_meet_82 rfl ?_
            refine r_goto (pc := 83) 87 dX12_meet_83 (by decide) ?_
            refine t_iret (pc := 87) dX12_meet_87 rfl rfl ?_
            refine ⟨?_, rfl, rfl⟩
            show t = meetF (I (m + 1) 0) (awayF (I (m + 1))) z 100 r
            first
              | (exfalso; omega)
              | (rw [he, meetF, if_pos (by omega), if_pos (by have hh := bt h60; rw [hna] at hh; exact of_decide_eq_true hh)])
        · skip
          refine r_iload_n (pc := 63) dX12_meet_63 rfl ?_
          refine r_iload_n (pc := 64) dX12_meet_64 rfl ?_
          refine r_iadd (pc := 65) dX12_meet_65 ?_
          refine r_istore_n (pc := 66) dX12_meet_66 (by decide) ?_
          refine r_goto (pc := 67) 36 dX12_meet_67 (by decide) ?_
          refine ih (t + z) (by omega) (by omega) hb2 ?_
          rw [he, meetF, if_pos (by omega), if_neg (by have hh := bf h60; rw [hna] at hh; simpa using hh)]
  refine r_iload_n (pc := 0) dX12_meet_0 rfl ?_
  refine r_i2l (pc := 1) dX12_meet_1 (by first | omega | (split <;> decide)) ?_
  refine r_ldc2_w (v := (2 : Int)) (pc := 2) dX12_meet_2 kcX12_60 ?_
  refine r_ldc2_w (v := (70 : Int)) (pc := 5) dX12_meet_5 kcX12_62 ?_
  refine i_S3ix (pc := 8) okX12_in staX12_in q1098 dX12_meet_8 (by decide) (Nat.le_of_ble_eq_true rfl) (sX12_in) ?_
  refine r_if_eq (pc := 11) 27 dX12_meet_11 (by decide) (by first | omega | (split <;> decide)) (fun h11 => ?_) (fun h11 => ?_)
  · skip
    refine r_aload_n (pc := 27) dX12_meet_27 rfl ?_
    refine r_bipush (pc := 28) dX12_meet_28 (by decide) ?_
    refine i_V1ix (pc := 30) okX12_bad inX12_bad selX12_bad q1101 dX12_meet_30 (by assumption) rfl (by decide) (Nat.le_of_ble_eq_true rfl) (sX12_bad) ?_
    refine t_iret (pc := 33) dX12_meet_33 rfl rfl ?_
    unfold meetM
    rw [if_neg (fun hz => by first | exact (wf h11) hz.1 | exact (wf h24) hz.2)]
    exact QZ_bad
  · skip
    refine r_iload_n (pc := 14) dX12_meet_14 rfl ?_
    refine r_i2l (pc := 15) dX12_meet_15 (by first | omega | (split <;> decide)) ?_
    refine r_lconst (v := 0) (pc := 16) dX12_meet_16 (by decide) ?_
    refine r_iload_n (pc := 17) dX12_meet_17 rfl ?_
    refine r_iconst (pc := 18) dX12_meet_18 ?_
    refine r_isub (pc := 19) dX12_meet_19 ?_
    refine r_i2l (pc := 20) dX12_meet_20 (by first | omega | (split <;> decide)) ?_
    refine i_S3ix (pc := 21) okX12_in staX12_in q1098 dX12_meet_21 (by decide) (Nat.le_of_ble_eq_true rfl) (sX12_in) ?_
    refine r_if_ne (pc := 24) 34 dX12_meet_24 (by decide) (by first | omega | (split <;> decide)) (fun h24 => ?_) (fun h24 => ?_)
    · skip
      have h1 := wt h11
      have h2 := wt h24
      have hM1 : I (m + 1) 0 * z ≤ 70 * z := Int.mul_le_mul_of_nonneg_right hsp.2 (by omega)
      refine r_iload_n (pc := 34) dX12_meet_34 rfl ?_
      refine r_istore_n (pc := 35) dX12_meet_35 (by decide) ?_
      exact loop ⟨h1, h2⟩ 99 r (by omega) (by omega) (by omega) rfl
    · skip
      refine r_aload_n (pc := 27) dX12_meet_27 rfl ?_
      refine r_bipush (pc := 28) dX12_meet_28 (by decide) ?_
      refine i_V1ix (pc := 30) okX12_bad inX12_bad selX12_bad q1101 dX12_meet_30 (by assumption) rfl (by decide) (Nat.le_of_ble_eq_true rfl) (sX12_bad) ?_
      refine t_iret (pc := 33) dX12_meet_33 rfl rfl ?_
      unfold meetM
      rw [if_neg (fun hz => by first | exact (wf h11) hz.1 | exact (wf h24) hz.2)]
      exact QZ_bad
def toldM (T : RS) (w n p : Int) : Int × RS := if (0 ≤ w ∧ w ≤ T.1 90 - 1) ∧ (0 ≤ n ∧ n ≤ 30) ∧ (0 ≤ p ∧ p ≤ 5) then (toldF (T.1 (91 + (6 * w.toNat + p.toNat))) p n.toNat % 26, T) else (-2, zB T)
theorem sX12_toldOn {w n p : Int} (hm : RfL G C P m := by assumption) (hBI : BI (I (m + 1)) := by assumption) (hw : iR w := by omega) (hn : iR n := by omega) (hp : iR p := by omega) : SX12_toldOn G [.ref m, .int (zI w), .int (zI n), .int (zI p)] C I P L (NI C (QZ m (toldM (rdM m I L) w n p).1 (toldM (rdM m I L) w n p).2 P)) := by
  obtain ⟨hBm, hKm, hK1, hK2, hK3, hK4, hK5, hK6, hK7, hK8, hK9, hK10, hK11, hP0, hP1, hP2, hP3, hP6, hP7, hP8, hP9, hP10, hP16, hP17⟩ := id hm
  have w4 := hBI.2.2.2.1
  refine en_I (by decide +kernel) (Nat.le_of_ble_eq_true rfl) ?_
  change Wd _ _ _ _ _ _ _ _ 0 [some _, some _, some _, some _, none, none, none] [] _ _ _ _
  have loop : (0 ≤ w ∧ w ≤ I (m + 1) 90 - 1) ∧ (0 ≤ n ∧ n ≤ 30) ∧ (0 ≤ p ∧ p ≤ 5) → ∀ (d f : Nat) (i k : Int) (w6 : Option Value), f + d = n.toNat → i = (f : Int) + 1 → k = toldF (I (m + 1) (91 + (6 * w.toNat + p.toNat))) p f % 26 → Wd G yX12_toldOn cX12_toldOn 7 (some .int) 2 (C.2.1 + 0, C.2.2 + 0) (NI C (QZ m (toldM (rdM m I L) w n p).1 (toldM (rdM m I L) w n p).2 P)) 58 [some (.ref m), some (.int (zI w)), some (.int (zI n)), some (.int (zI p)), some (.int (zI k)), some (.int (zI i)), w6] [] C I P L := by
    intro hz d
    induction d with
    | zero =>
      intro f i k w6 hd hi hk
      refine r_iload (pc := 58) dX12_toldOn_58 rfl ?_
      refine r_iload_n (pc := 60) dX12_toldOn_60 rfl ?_
      refine r_icmp_gt (pc := 61) 110 dX12_toldOn_61 (by decide) (by omega) (by omega) (fun h61 => ?_) (fun h61 => ?_)
      · skip
        refine r_iload (pc := 110) dX12_toldOn_110 rfl ?_
        refine t_iret (pc := 112) dX12_toldOn_112 rfl rfl ?_
        unfold toldM
        rw [rdM_1, if_pos hz]
        exact ⟨by rw [hk, show f = n.toNat by omega], rfl, rfl⟩
      · exfalso; omega
    | succ d ih =>
      intro f i k w6 hd hi hk
      have hst := tl_st (I (m + 1) (91 + (6 * w.toNat + p.toNat))) p f
      refine r_iload (pc := 58) dX12_toldOn_58 rfl ?_
      refine r_iload_n (pc := 60) dX12_toldOn_60 rfl ?_
      refine r_icmp_gt (pc := 61) 110 dX12_toldOn_61 (by decide) (by omega) (by omega) (fun h61 => ?_) (fun h61 => ?_)
      · exfalso; omega
      · skip
        refine r_iload (pc := 64) dX12_toldOn_64 rfl ?_
        refine r_iconst (pc := 66) dX12_toldOn_66 ?_
        refine r_irem (pc := 67) dX12_toldOn_67 (by omega) (by omega) (by omega) (by omega) ?_
        refine r_iconst (pc := 68) dX12_toldOn_68 ?_
        refine r_icmp_ne (pc := 69) 76 dX12_toldOn_69 (by decide) (by omega) (by omega) (fun h69 => ?_) (fun h69 => ?_)
        · skip
          refine r_bipush (pc := 76) dX12_toldOn_76 (by decide) ?_
          refine r_istore (pc := 78) dX12_toldOn_78 (by decide) ?_
          refine r_iload (pc := 80) dX12_toldOn_80 rfl ?_
          refine r_bipush (pc := 82) dX12_toldOn_82 (by decide) ?_
          refine r_irem (pc := 84) dX12_toldOn_84 (by omega) (by omega) (by omega) (by omega) ?_
          refine r_iload_n (pc := 85) dX12_toldOn_85 rfl ?_
          refine r_icmp_ne (pc := 86) 100 dX12_toldOn_86 (by decide) (by omega) (by omega) (fun h86 => ?_) (fun h86 => ?_)
          · skip
            refine r_iload (pc := 100) dX12_toldOn_100 rfl ?_
            refine r_istore (pc := 102) dX12_toldOn_102 (by decide) ?_
            refine r_iinc (pc := 104) dX12_toldOn_104 rfl ?_
            refine r_goto (pc := 107) 58 dX12_toldOn_107 (by decide) ?_
            refine ih (f + 1) _ _ _ (by omega) (by omega) ?_
            rw [hst, if_neg (by omega)]; omega
          · skip
            refine r_iload (pc := 89) dX12_toldOn_89 rfl ?_
            refine r_iload (pc := 91) dX12_toldOn_91 rfl ?_
            refine r_iadd (pc := 93) dX12_toldOn_93 ?_
            refine r_bipush (pc := 94) dX12_toldOn_94 (by decide) ?_
            refine r_irem (pc := 96) dX12_toldOn_96 (by omega) (by omega) (by omega) (by omega) ?_
            refine r_goto (pc := 97) 102 dX12_toldOn_97 (by decide) ?_
            refine r_istore (pc := 102) dX12_toldOn_102 (by decide) ?_
            refine r_iinc (pc := 104) dX12_toldOn_104 rfl ?_
            refine r_goto (pc := 107) 58 dX12_toldOn_107 (by decide) ?_
            refine ih (f + 1) _ _ _ (by omega) (by omega) ?_
            first
              | (rw [hst, if_pos (by omega), if_pos (by omega)]; omega)
              | (rw [hst, if_pos (by omega), if_neg (by omega)]; omega)
        · skip
          refine r_iconst (pc := 72) dX12_toldOn_72 ?_
          refine r_goto (pc := 73) 78 dX12_toldOn_73 (by decide) ?_
          refine r_istore (pc := 78) dX12_toldOn_78 (by decide) ?_
          refine r_iload (pc := 80) dX12_toldOn_80 rfl ?_
          refine r_bipush (pc := 82) dX12_toldOn_82 (by decide) ?_
          refine r_irem (pc := 84) dX12_toldOn_84 (by omega) (by omega) (by omega) (by omega) ?_
          refine r_iload_n (pc := 85) dX12_toldOn_85 rfl ?_
          refine r_icmp_ne (pc := 86) 100 dX12_toldOn_86 (by decide) (by omega) (by omega) (fun h86 => ?_) (fun h86 => ?_)
          · skip
            refine r_iload (pc := 100) dX12_toldOn_100 rfl ?_
            refine r_istore (pc := 102) dX12_toldOn_102 (by decide) ?_
            refine r_iinc (pc := 104) dX12_toldOn_104 rfl ?_
            refine r_goto (pc := 107) 58 dX12_toldOn_107 (by decide) ?_
            refine ih (f + 1) _ _ _ (by omega) (by omega) ?_
            rw [hst, if_neg (by omega)]; omega
          · skip
            refine r_iload (pc := 89) dX12_toldOn_89 rfl ?_
            refine r_iload (pc := 91) dX12_toldOn_91 rfl ?_
            refine r_iadd (pc := 93) dX12_toldOn_93 ?_
            refine r_bipush (pc := 94) dX12_toldOn_94 (by decide) ?_
            refine r_irem (pc := 96) dX12_toldOn_96 (by omega) (by omega) (by omega) (by omega) ?_
            refine r_goto (pc := 97) 102 dX12_toldOn_97 (by decide) ?_
            refine r_istore (pc := 102) dX12_toldOn_102 (by decide) ?_
            refine r_iinc (pc := 104) dX12_toldOn_104 rfl ?_
            refine r_goto (pc := 107) 58 dX12_toldOn_107 (by decide) ?_
            refine ih (f + 1) _ _ _ (by omega) (by omega) ?_
            first
              | (rw [hst, if_pos (by omega), if_pos (by omega)]; omega)
              | (rw [hst, if_pos (by omega), if_neg (by omega)]; omega)
  refine r_aload_n (pc := 0) dX12_toldOn_0 rfl ?_
  refine r_iload_n (pc := 1) dX12_toldOn_1 rfl ?_
  refine i_V1ix (pc := 2) okX12_isWord inX12_isWord selX12_isWord q1357 dX12_toldOn_2 (by assumption) rfl (by decide) (Nat.le_of_ble_eq_true rfl) (sX12_isWord) ?_
  refine r_if_eq (pc := 5) 32 dX12_toldOn_5 (by decide) (by first | omega | (split <;> decide)) (fun h5 => ?_) (fun h5 => ?_)
  · skip
    refine r_aload_n (pc := 32) dX12_toldOn_32 rfl ?_
    refine r_bipush (pc := 33) dX12_toldOn_33 (by decide) ?_
    refine i_V1ix (pc := 35) okX12_bad inX12_bad selX12_bad q1101 dX12_toldOn_35 (by assumption) rfl (by decide) (Nat.le_of_ble_eq_true rfl) (sX12_bad) ?_
    refine t_iret (pc := 38) dX12_toldOn_38 rfl rfl ?_
    unfold toldM
    rw [rdM_1, if_neg (fun hz => by first | exact (wf h5) hz.1 | exact (wf h17) hz.2.1 | exact (wf h29) hz.2.2)]
    exact QZ_bad
  · skip
    refine r_iload_n (pc := 8) dX12_toldOn_8 rfl ?_
    refine r_i2l (pc := 9) dX12_toldOn_9 (by first | omega | (split <;> decide)) ?_
    refine r_lconst (v := 0) (pc := 10) dX12_toldOn_10 (by decide) ?_
    refine r_ldc2_w (v := (30 : Int)) (pc := 11) dX12_toldOn_11 kcX12_231 ?_
    refine i_S3ix (pc := 14) okX12_in staX12_in q1098 dX12_toldOn_14 (by decide) (Nat.le_of_ble_eq_true rfl) (sX12_in) ?_
    refine r_if_eq (pc := 17) 32 dX12_toldOn_17 (by decide) (by first | omega | (split <;> decide)) (fun h17 => ?_) (fun h17 => ?_)
    · skip
      refine r_aload_n (pc := 32) dX12_toldOn_32 rfl ?_
      refine r_bipush (pc := 33) dX12_toldOn_33 (by decide) ?_
      refine i_V1ix (pc := 35) okX12_bad inX12_bad selX12_bad q1101 dX12_toldOn_35 (by assumption) rfl (by decide) (Nat.le_of_ble_eq_true rfl) (sX12_bad) ?_
      refine t_iret (pc := 38) dX12_toldOn_38 rfl rfl ?_
      unfold toldM
      rw [rdM_1, if_neg (fun hz => by first | exact (wf h5) hz.1 | exact (wf h17) hz.2.1 | exact (wf h29) hz.2.2)]
      exact QZ_bad
    · skip
      refine r_iload_n (pc := 20) dX12_toldOn_20 rfl ?_
      refine r_i2l (pc := 21) dX12_toldOn_21 (by first | omega | (split <;> decide)) ?_
      refine r_lconst (v := 0) (pc := 22) dX12_toldOn_22 (by decide) ?_
      refine r_ldc2_w (v := (5 : Int)) (pc := 23) dX12_toldOn_23 kcX12_142 ?_
      refine i_S3ix (pc := 26) okX12_in staX12_in q1098 dX12_toldOn_26 (by decide) (Nat.le_of_ble_eq_true rfl) (sX12_in) ?_
      refine r_if_ne (pc := 29) 39 dX12_toldOn_29 (by decide) (by first | omega | (split <;> decide)) (fun h29 => ?_) (fun h29 => ?_)
      · skip
        have h1 := wt h5
        have h2 := wt h17
        have h3 := wt h29
        have hll := hBI.2.2.2.2.2.2 (6 * w.toNat + p.toNat) (by omega)
        refine r_aload_n (pc := 39) dX12_toldOn_39 rfl ?_
        refine r_getA (pc := 40) dX12_toldOn_40 frX12_7 (by assumption) (by assumption) ?_
        refine r_bipush (pc := 43) dX12_toldOn_43 (by decide) ?_
        refine r_bipush (pc := 45) dX12_toldOn_45 (by decide) ?_
        refine r_iload_n (pc := 47) dX12_toldOn_47 rfl ?_
        refine r_imul (pc := 48) dX12_toldOn_48 ?_
        refine r_iadd (pc := 49) dX12_toldOn_49 ?_
        refine r_iload_n (pc := 50) dX12_toldOn_50 rfl ?_
        refine r_iadd (pc := 51) dX12_toldOn_51 ?_
        refine r_iald (j := 91 + (6 * w.toNat + p.toNat)) (pc := 52) dX12_toldOn_52 (by assumption) (by omega) (by first | omega | (split <;> decide)) (by omega) ?_
        refine r_istore (pc := 53) dX12_toldOn_53 (by decide) ?_
        refine r_iconst (pc := 55) dX12_toldOn_55 ?_
        refine r_istore (pc := 56) dX12_toldOn_56 (by decide) ?_
        refine loop ⟨h1, h2, h3⟩ n.toNat 0 _ _ _ (by omega) (by omega) ?_
        show _ = I (m + 1) (91 + (6 * w.toNat + p.toNat)) % 26; omega
      · skip
        refine r_aload_n (pc := 32) dX12_toldOn_32 rfl ?_
        refine r_bipush (pc := 33) dX12_toldOn_33 (by decide) ?_
        refine i_V1ix (pc := 35) okX12_bad inX12_bad selX12_bad q1101 dX12_toldOn_35 (by assumption) rfl (by decide) (Nat.le_of_ble_eq_true rfl) (sX12_bad) ?_
        refine t_iret (pc := 38) dX12_toldOn_38 rfl rfl ?_
        unfold toldM
        rw [rdM_1, if_neg (fun hz => by first | exact (wf h5) hz.1 | exact (wf h17) hz.2.1 | exact (wf h29) hz.2.2)]
        exact QZ_bad
end REF8

