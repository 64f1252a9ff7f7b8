/-! what the calls share -/
def YL (G : WG) (C : CF) (P : MP) : Prop := C.1 (gB G) = some (.inl 11) ∧ C.1 (gB G + 4) = some (.inr (0, 6)) ∧ P (gB G) 0 = some (gB G + 11) ∧ P (gB G) 1 = some (gB G + 91) ∧ P (gB G) 2 = some (gB G + 171) ∧ P (gB G) 3 = some (gB G + 251) ∧ P (gB G) 4 = some (gB G + 1) ∧ P (gB G) 5 = some (gB G + 331) ∧ P (gB G) 6 = some (gB G + 4) ∧ ReadL G C P (gB G + 1) ∧ LumpL G C P (gB G + 11) ∧ LumpL G C P (gB G + 91) ∧ LumpL G C P (gB G + 171) ∧ LumpL G C P (gB G + 251) ∧ TrialsL G C P (gB G + 331) ∧ KindL G C P
section Y
variable {G : WG} {C : CF} {I : MI} {P : MP} {L : ML}
theorem sX11_refuseBad {v : Int} (hy : YL G C P := by assumption) : SX11_refuseBad G [.ref (gB G), .int (zI v)] C I P L (NI C (XI v (u2 I (gB G) 8 (I (gB G) 8 + 1)) P L)) := by
  have hK := hy.1
  refine en_I (by decide +kernel) (Nat.le_of_ble_eq_true rfl) ?_
  change Wd _ _ _ _ _ _ _ _ 0 [some _, some _] [] _ _ _ _
  refine r_aload_n (pc := 0) dX11_refuseBad_0 rfl ?_
  refine r_dup (pc := 1) dX11_refuseBad_1 rfl ?_
  refine r_getI (pc := 2) dX11_refuseBad_2 frX11_294 (by assumption) ?_
  refine r_iconst (pc := 5) dX11_refuseBad_5 ?_
  refine r_iadd (pc := 6) dX11_refuseBad_6 ?_
  refine r_putI (pc := 7) dX11_refuseBad_7 fwX11_294 (by assumption) (by omega) ?_
  refine r_iload_n (pc := 10) dX11_refuseBad_10 rfl ?_
  refine t_iret (pc := 11) dX11_refuseBad_11 rfl rfl ?_
  exact ⟨rfl, rfl, rfl, rfl⟩
theorem sX11_refuseNo (hy : YL G C P := by assumption) : SX11_refuseNo G [.ref (gB G)] C I P L (NI C (XI (-3) (u2 I (gB G) 9 (I (gB G) 9 + 1)) P L)) := by
  have hK := hy.1
  refine en_I (by decide +kernel) (Nat.le_of_ble_eq_true rfl) ?_
  change Wd _ _ _ _ _ _ _ _ 0 [some _] [] _ _ _ _
  refine r_aload_n (pc := 0) dX11_refuseNo_0 rfl ?_
  refine r_dup (pc := 1) dX11_refuseNo_1 rfl ?_
  refine r_getI (pc := 2) dX11_refuseNo_2 frX11_297 (by assumption) ?_
  refine r_iconst (pc := 5) dX11_refuseNo_5 ?_
  refine r_iadd (pc := 6) dX11_refuseNo_6 ?_
  refine r_putI (pc := 7) dX11_refuseNo_7 fwX11_297 (by assumption) (by omega) ?_
  refine r_bipush (pc := 10) dX11_refuseNo_10 (by decide) ?_
  refine t_iret (pc := 12) dX11_refuseNo_12 rfl rfl ?_
  exact ⟨rfl, rfl, rfl, rfl⟩
theorem sX11_refuseFull (hy : YL G C P := by assumption) : SX11_refuseFull G [.ref (gB G)] C I P L (NI C (XI (-4) (u2 I (gB G) 10 (I (gB G) 10 + 1)) P L)) := by
  have hK := hy.1
  refine en_I (by decide +kernel) (Nat.le_of_ble_eq_true rfl) ?_
  change Wd _ _ _ _ _ _ _ _ 0 [some _] [] _ _ _ _
  refine r_aload_n (pc := 0) dX11_refuseFull_0 rfl ?_
  refine r_dup (pc := 1) dX11_refuseFull_1 rfl ?_
  refine r_getI (pc := 2) dX11_refuseFull_2 frX11_300 (by assumption) ?_
  refine r_iconst (pc := 5) dX11_refuseFull_5 ?_
  refine r_iadd (pc := 6) dX11_refuseFull_6 ?_
  refine r_putI (pc := 7) dX11_refuseFull_7 fwX11_300 (by assumption) (by omega) ?_
  refine r_bipush (pc := 10) dX11_refuseFull_10 (by decide) ?_
  refine t_iret (pc := 12) dX11_refuseFull_12 rfl rfl ?_
  exact ⟨rfl, rfl, rfl, rfl⟩
theorem sX11_isFamily {f : Int} (hy : YL G C P := by assumption) (hf : iR f := by omega) (hs : 0 ≤ I (gB G + 21) 10 ∧ I (gB G + 21) 10 ≤ 6 := by omega) : SX11_isFamily G [.ref (gB G), .int (zI f)] C I P L (NI C (XI (if 0 ≤ f ∧ f ≤ I (gB G + 21) 10 - 1 then 1 else 0) I P L)) := by
  obtain ⟨hK, hK4, hP0, hP1, hP2, hP3, hP4, hP5, hP6, hr, hl, -⟩ := id hy
  have hKl := hl.2.1
  have hPl : P (gB G + 11) 0 = some (gB G + 21) := hl.2.2.2.1
  have hKf : C.1 (gB G + 21) = some (.inl 2) := hl.2.2.2.2.2.2.2.1.2.1
  refine en_I (by decide +kernel) (Nat.le_of_ble_eq_true rfl) ?_
  change Wd _ _ _ _ _ _ _ _ 0 [some _, some _] [] _ _ _ _
  refine r_iload_n (pc := 0) dX11_isFamily_0 rfl ?_
  refine r_iconst (pc := 1) dX11_isFamily_1 ?_
  refine r_aload_n (pc := 2) dX11_isFamily_2 rfl ?_
  refine r_getP (pc := 3) dX11_isFamily_3 frX11_40 (by assumption) (by assumption) ?_
  refine r_getP (pc := 6) dX11_isFamily_6 frX11_72 (by assumption) (by assumption) ?_
  refine r_getI (pc := 9) dX11_isFamily_9 frX11_93 (by assumption) ?_
  refine r_iconst (pc := 12) dX11_isFamily_12 ?_
  refine r_isub (pc := 13) dX11_isFamily_13 ?_
  refine i_S3ix (pc := 14) okX11_within staX11_within q334 dX11_isFamily_14 (by decide) (Nat.le_of_ble_eq_true rfl) (sX11_within) ?_
  refine t_iret (pc := 17) dX11_isFamily_17 rfl (nar_z (by split <;> simp)) ?_
  exact ⟨rfl, rfl, rfl, rfl⟩
theorem sX11_isWord {f : Int} (hy : YL G C P := by assumption) (hf : iR f := by omega) (hs : 0 ≤ I (gB G + 12) 3 ∧ I (gB G + 12) 3 ≤ 4 := by omega) : SX11_isWord G [.ref (gB G), .int (zI f)] C I P L (NI C (XI (if 0 ≤ f ∧ f ≤ I (gB G + 12) 3 - 1 then 1 else 0) I P L)) := by
  obtain ⟨hK, hK4, hP0, hP1, hP2, hP3, hP4, hP5, hP6, hr, hl, -⟩ := id hy
  have hKl := hl.2.1
  have hPl : P (gB G + 11) 1 = some (gB G + 12) := hl.2.2.2.2.1
  have hKf : C.1 (gB G + 12) = some (.inl 0) := hl.2.2.2.2.2.2.1.2.1
  refine en_I (by decide +kernel) (Nat.le_of_ble_eq_true rfl) ?_
  change Wd _ _ _ _ _ _ _ _ 0 [some _, some _] [] _ _ _ _
  refine r_iload_n (pc := 0) dX11_isWord_0 rfl ?_
  refine r_iconst (pc := 1) dX11_isWord_1 ?_
  refine r_aload_n (pc := 2) dX11_isWord_2 rfl ?_
  refine r_getP (pc := 3) dX11_isWord_3 frX11_40 (by assumption) (by assumption) ?_
  refine r_getP (pc := 6) dX11_isWord_6 frX11_191 (by assumption) (by assumption) ?_
  refine r_getI (pc := 9) dX11_isWord_9 frX11_254 (by assumption) ?_
  refine r_iconst (pc := 12) dX11_isWord_12 ?_
  refine r_isub (pc := 13) dX11_isWord_13 ?_
  refine i_S3ix (pc := 14) okX11_within staX11_within q334 dX11_isWord_14 (by decide) (Nat.le_of_ble_eq_true rfl) (sX11_within) ?_
  refine t_iret (pc := 17) dX11_isWord_17 rfl (nar_z (by split <;> simp)) ?_
  exact ⟨rfl, rfl, rfl, rfl⟩
theorem sX11_imageAt {i : Nat} {x : Int} (hy : YL G C P := by assumption) (hx : x = (i : Int) := by first | rfl | omega) (hi : i < 2 := by omega) : SX11_imageAt G [.ref (gB G), .int (zI x)] C I P L (NR C (XR (gB G + 171 + 80 * i) I P L)) := by
  obtain ⟨hK, hK4, hP0, hP1, hP2, hP3, -⟩ := id hy
  refine en_R (by decide +kernel) (Nat.le_of_ble_eq_true rfl) ?_
  change Wd _ _ _ _ _ _ _ _ 0 [some _, some _] [] _ _ _ _
  refine r_iload_n (pc := 0) dX11_imageAt_0 rfl ?_
  refine r_if_ne (pc := 1) 11 dX11_imageAt_1 (by decide) (by omega) (fun h1 => ?_) (fun h1 => ?_)
  · skip
    refine r_aload_n (pc := 11) dX11_imageAt_11 rfl ?_
    refine r_getP (pc := 12) dX11_imageAt_12 frX11_50 (by assumption) (by assumption) ?_
    refine t_aret (pc := 15) dX11_imageAt_15 rfl ?_
    exact ⟨by omega, rfl, rfl, rfl⟩
  · skip
    refine r_aload_n (pc := 4) dX11_imageAt_4 rfl ?_
    refine r_getP (pc := 5) dX11_imageAt_5 frX11_47 (by assumption) (by assumption) ?_
    refine r_goto (pc := 8) 15 dX11_imageAt_8 (by decide) ?_
    refine t_aret (pc := 15) dX11_imageAt_15 rfl ?_
    exact ⟨by omega, rfl, rfl, rfl⟩
def rowL (a b c d e f : Int) : Nat → Int := fun k => if k = 0 then a else if k = 1 then b else if k = 2 then c else if k = 3 then d else if k = 4 then e else f
def letN (R : Nat → Int) : Nat → Bool
  | 0 => true
  | n + 1 => letN R n && decide (0 ≤ R n ∧ R n ≤ 25)
theorem letN_no {R : Nat → Int} {f : Nat} (h : ¬ (0 ≤ R f ∧ R f ≤ 25)) : ∀ n, f < n → letN R n = false := by
  intro n
  induction n with
  | zero => intro h; omega
  | succ n ih =>
    intro hn
    unfold letN
    by_cases hf : f = n
    · subst hf; rw [decide_eq_false h]; cases letN R f <;> rfl
    · rw [ih (by omega)]; rfl
theorem sX11_takeLetters {a b c d e f : Int} (hy : YL G C P := by assumption) (ha : iR a := by omega) (hb : iR b := by omega) (hc : iR c := by omega) (hd : iR d := by omega) (he : iR e := by omega) (hf : iR f := by omega) : SX11_takeLetters G [.ref (gB G), .int (zI a), .int (zI b), .int (zI c), .int (zI d), .int (zI e), .int (zI f)] C I P L (NI C (fun v I1 P1 L1 => v = (if letN (rowL a b c d e f) 6 then 1 else 0) ∧ (∀ k, k < 6 → I1 (gB G + 4) k = rowL a b c d e f k) ∧ (∀ x, x ≠ gB G + 4 → I1 x = I x) ∧ P = P1 ∧ L = L1)) := by
  obtain ⟨hK, hK4, hP0, hP1, hP2, hP3, hP4, hP5, hP6, -⟩ := id hy
  refine en_I (by decide +kernel) (Nat.le_of_ble_eq_true rfl) ?_
  change Wd _ _ _ _ _ _ _ _ 0 [some _, some _, some _, some _, some _, some _, some _, none] [] _ _ _ _
  have loop : ∀ (I1 : MI), (∀ k, k < 6 → I1 (gB G + 4) k = rowL a b c d e f k) → (∀ x, x ≠ gB G + 4 → I1 x = I x) → ∀ (m n : Nat) (i : Int), n + m = 6 → i = (n : Int) → letN (rowL a b c d e f) n = true → Wd G yX11_takeLetters cX11_takeLetters 8 (some .boolean) 1 (C.2.1 + 0, C.2.2 + 0) (NI C (fun v I1 P1 L1 => v = (if letN (rowL a b c d e f) 6 then 1 else 0) ∧ (∀ k, k < 6 → I1 (gB G + 4) k = rowL a b c d e f k) ∧ (∀ x, x ≠ gB G + 4 → I1 x = I x) ∧ P = P1 ∧ L = L1)) 60 [some (.ref (gB G)), some (.int (zI a)), some (.int (zI b)), some (.int (zI c)), some (.int (zI d)), some (.int (zI e)), some (.int (zI f)), some (.int (zI i))] [] C I1 P L := by
    intro I1 hrow hO m
    induction m using Nat.strongRecOn with
    | _ m ih =>
      intro n i hm hi hn
      refine r_iload (pc := 60) dX11_takeLetters_60 rfl ?_
      refine r_bipush (pc := 62) dX11_takeLetters_62 (by decide) ?_
      refine r_icmp_ge (pc := 64) 93 dX11_takeLetters_64 (by decide) (by first | omega | (split <;> decide)) (by first | omega | (split <;> decide)) (fun h64 => ?_) (fun h64 => ?_)
      · skip
        refine r_iconst (pc := 93) dX11_takeLetters_93 ?_
        refine t_iret (pc := 94) dX11_takeLetters_94 rfl rfl ?_
        refine ⟨?_, hrow, hO, rfl, rfl⟩
        rw [← show n = 6 by omega, hn]; rfl
      · skip
        have hv := hrow n (by omega)
        have hvr : iR (rowL a b c d e f n) := by unfold rowL; (repeat' split) <;> assumption
        refine r_aload_n (pc := 67) dX11_takeLetters_67 rfl ?_
        refine r_getA (pc := 68) dX11_takeLetters_68 frX11_16 (by assumption) (by assumption) ?_
        refine r_iload (pc := 71) dX11_takeLetters_71 rfl ?_
        refine i_S2ix (pc := 73) okX11_at staX11_at q930 dX11_takeLetters_73 (by decide) (Nat.le_of_ble_eq_true rfl) (sX11_at (n := 6) (j := n)) ?_
        rw [hv]
        refine r_iconst (pc := 76) dX11_takeLetters_76 ?_
        refine r_bipush (pc := 77) dX11_takeLetters_77 (by decide) ?_
        refine i_S3ix (pc := 79) okX11_within staX11_within q334 dX11_takeLetters_79 (by decide) (Nat.le_of_ble_eq_true rfl) (sX11_within) ?_
        refine r_if_ne (pc := 82) 87 dX11_takeLetters_82 (by decide) (by first | omega | (split <;> decide)) (fun h82 => ?_) (fun h82 => ?_)
        · skip
          refine r_iinc (pc := 87) dX11_takeLetters_87 rfl ?_
          refine r_goto (pc := 90) 60 dX11_takeLetters_90 (by decide) ?_
          refine ih (m - 1) (by omega) (n + 1) _ (by omega) (by omega) ?_
          unfold letN
          have hin : 0 ≤ rowL a b c d e f n ∧ rowL a b c d e f n ≤ 25 := by
            by_cases hz : 0 ≤ rowL a b c d e f n ∧ rowL a b c d e f n ≤ 25
            · exact hz
            · rw [if_neg hz] at h82; exact absurd rfl h82
          rw [hn, decide_eq_true hin]; rfl
        · skip
          refine r_iconst (pc := 85) dX11_takeLetters_85 ?_
          refine t_iret (pc := 86) dX11_takeLetters_86 rfl rfl ?_
          refine ⟨?_, hrow, hO, rfl, rfl⟩
          have hin : ¬ (0 ≤ rowL a b c d e f n ∧ rowL a b c d e f n ≤ 25) := by
            intro hz
            rw [if_pos hz] at h82; omega
          rw [letN_no hin 6 (by omega)]; rfl
  refine r_aload_n (pc := 0) dX11_takeLetters_0 rfl ?_
  refine r_getA (pc := 1) dX11_takeLetters_1 frX11_16 (by assumption) (by assumption) ?_
  refine r_iconst (pc := 4) dX11_takeLetters_4 ?_
  refine r_iload_n (pc := 5) dX11_takeLetters_5 rfl ?_
  refine i_S3vx (pc := 6) okX11_put staX11_put q929 dX11_takeLetters_6 (by decide) (Nat.le_of_ble_eq_true rfl) (sX11_put (n := 6) (j := 0)) ?_
  refine r_aload_n (pc := 9) dX11_takeLetters_9 rfl ?_
  refine r_getA (pc := 10) dX11_takeLetters_10 frX11_16 (by assumption) (by assumption) ?_
  refine r_iconst (pc := 13) dX11_takeLetters_13 ?_
  refine r_iload_n (pc := 14) dX11_takeLetters_14 rfl ?_
  refine i_S3vx (pc := 15) okX11_put staX11_put q929 dX11_takeLetters_15 (by decide) (Nat.le_of_ble_eq_true rfl) (sX11_put (n := 6) (j := 1)) ?_
  refine r_aload_n (pc := 18) dX11_takeLetters_18 rfl ?_
  refine r_getA (pc := 19) dX11_takeLetters_19 frX11_16 (by assumption) (by assumption) ?_
  refine r_iconst (pc := 22) dX11_takeLetters_22 ?_
  refine r_iload_n (pc := 23) dX11_takeLetters_23 rfl ?_
  refine i_S3vx (pc := 24) okX11_put staX11_put q929 dX11_takeLetters_24 (by decide) (Nat.le_of_ble_eq_true rfl) (sX11_put (n := 6) (j := 2)) ?_
  refine r_aload_n (pc := 27) dX11_takeLetters_27 rfl ?_
  refine r_getA (pc := 28) dX11_takeLetters_28 frX11_16 (by assumption) (by assumption) ?_
  refine r_iconst (pc := 31) dX11_takeLetters_31 ?_
  refine r_iload (pc := 32) dX11_takeLetters_32 rfl ?_
  refine i_S3vx (pc := 34) okX11_put staX11_put q929 dX11_takeLetters_34 (by decide) (Nat.le_of_ble_eq_true rfl) (sX11_put (n := 6) (j := 3)) ?_
  refine r_aload_n (pc := 37) dX11_takeLetters_37 rfl ?_
  refine r_getA (pc := 38) dX11_takeLetters_38 frX11_16 (by assumption) (by assumption) ?_
  refine r_iconst (pc := 41) dX11_takeLetters_41 ?_
  refine r_iload (pc := 42) dX11_takeLetters_42 rfl ?_
  refine i_S3vx (pc := 44) okX11_put staX11_put q929 dX11_takeLetters_44 (by decide) (Nat.le_of_ble_eq_true rfl) (sX11_put (n := 6) (j := 4)) ?_
  refine r_aload_n (pc := 47) dX11_takeLetters_47 rfl ?_
  refine r_getA (pc := 48) dX11_takeLetters_48 frX11_16 (by assumption) (by assumption) ?_
  refine r_iconst (pc := 51) dX11_takeLetters_51 ?_
  refine r_iload (pc := 52) dX11_takeLetters_52 rfl ?_
  refine i_S3vx (pc := 54) okX11_put staX11_put q929 dX11_takeLetters_54 (by decide) (Nat.le_of_ble_eq_true rfl) (sX11_put (n := 6) (j := 5)) ?_
  refine r_iconst (pc := 57) dX11_takeLetters_57 ?_
  refine r_istore (pc := 58) dX11_takeLetters_58 (by decide) ?_
  refine loop _ (fun k hk => ?_) (fun x hx => ?_) 6 0 _ (by omega) (by omega) rfl
  · unfold rowL
    simp only [u2_app, eq_self, true_and]
    (repeat' split) <;> first | rfl | (exfalso; omega)
  · funext j
    rw [u2_a _ _ _ _ hx, u2_a _ _ _ _ hx, u2_a _ _ _ _ hx, u2_a _ _ _ _ hx, u2_a _ _ _ _ hx, u2_a _ _ _ _ hx]
def tallyS (F B : Nat → Int) (u n w : Int) : Int := if w = 7 then B 33 else if w = 8 then B 59 else if w = 9 then B 90 else if w = 10 then F 31 else if w = 11 then F 32 else if w = 12 then u else if w = 13 then n else F w.toNat
theorem sX11_tally {w : Int} (hy : YL G C P := by assumption) (hw : 0 ≤ w ∧ w ≤ 13 := by omega) : SX11_tally G [.ref (gB G), .int (zI w)] C I P L (NI C (XI (tallyS (rdF I (gB G + 21)) (rdB I (gB G + 12)) (I (gB G + 11) 4) (I (gB G + 1) 2) w) I P L)) := by
  obtain ⟨hK, hK4, hP0, hP1, hP2, hP3, hP4, hP5, hP6, hr, hl, -⟩ := id hy
  have hKl := hl.2.1
  have hPl : P (gB G + 11) 0 = some (gB G + 21) := hl.2.2.2.1
  have hKf : C.1 (gB G + 21) = some (.inl 2) := hl.2.2.2.2.2.2.2.1.2.1
  have hf : FarmL G C P (gB G + 21) := hl.2.2.2.2.2.2.2.1
  have hPb : P (gB G + 11) 1 = some (gB G + 12) := hl.2.2.2.2.1
  have hKb : C.1 (gB G + 12) = some (.inl 0) := hl.2.2.2.2.2.2.1.2.1
  have hKr := hr.2.1
  generalize hq : XI (tallyS (rdF I (gB G + 21)) (rdB I (gB G + 12)) (I (gB G + 11) 4) (I (gB G + 1) 2) w) I P L = q
  refine en_I (by decide +kernel) (Nat.le_of_ble_eq_true rfl) ?_
  change Wd _ _ _ _ _ _ _ _ 0 [some _, some _] [] _ _ _ _
  refine r_iload_n (pc := 0) dX11_tally_0 rfl ?_
  rcases (show w = 0 ∨ w = 1 ∨ w = 2 ∨ w = 3 ∨ w = 4 ∨ w = 5 ∨ w = 6 ∨ w = 7 ∨ w = 8 ∨ w = 9 ∨ w = 10 ∨ w = 11 ∨ w = 12 ∨ w = 13 ∨ (w < 0 ∨ 13 < w) by omega) with h1 | h1 | h1 | h1 | h1 | h1 | h1 | h1 | h1 | h1 | h1 | h1 | h1 | h1 | h1
  · skip
    refine r_tsIn (pc := 1) 72 dX11_tally_1 (by omega) (by omega) (by omega) (by rw [h1]; rfl) (by decide) ?_
    refine r_aload_n (pc := 72) dX11_tally_72 rfl ?_
    refine r_getP (pc := 73) dX11_tally_73 frX11_40 (by assumption) (by assumption) ?_
    refine r_getP (pc := 76) dX11_tally_76 frX11_72 (by assumption) (by assumption) ?_
    refine r_getI (pc := 79) dX11_tally_79 frX11_76 (by assumption) ?_
    refine t_iret (pc := 82) dX11_tally_82 rfl rfl ?_
    subst hq
    first
      | (subst h1; exact ⟨rfl, rfl, rfl, rfl⟩)
      | (exfalso; omega)
  · skip
    refine r_tsIn (pc := 1) 83 dX11_tally_1 (by omega) (by omega) (by omega) (by rw [h1]; rfl) (by decide) ?_
    refine r_aload_n (pc := 83) dX11_tally_83 rfl ?_
    refine r_getP (pc := 84) dX11_tally_84 frX11_40 (by assumption) (by assumption) ?_
    refine r_getP (pc := 87) dX11_tally_87 frX11_72 (by assumption) (by assumption) ?_
    refine r_getI (pc := 90) dX11_tally_90 frX11_328 (by assumption) ?_
    refine t_iret (pc := 93) dX11_tally_93 rfl rfl ?_
    subst hq
    first
      | (subst h1; exact ⟨rfl, rfl, rfl, rfl⟩)
      | (exfalso; omega)
  · skip
    refine r_tsIn (pc := 1) 176 dX11_tally_1 (by omega) (by omega) (by omega) (by rw [h1]; rfl) (by decide) ?_
    refine r_aload_n (pc := 176) dX11_tally_176 rfl ?_
    refine r_getP (pc := 177) dX11_tally_177 frX11_40 (by assumption) (by assumption) ?_
    refine r_getP (pc := 180) dX11_tally_180 frX11_72 (by assumption) (by assumption) ?_
    refine r_iload_n (pc := 183) dX11_tally_183 rfl ?_
    refine r_iconst (pc := 184) dX11_tally_184 ?_
    refine r_isub (pc := 185) dX11_tally_185 ?_
    refine i_V1ix (pc := 186) okX2_stock inX2_stock selX2_stock q357 dX11_tally_186 (by assumption) rfl (by decide) (Nat.le_of_ble_eq_true rfl) (sX2_stock (w := w.toNat - 2)) ?_
    refine t_iret (pc := 189) dX11_tally_189 rfl rfl ?_
    subst hq
    first
      | (subst h1; exact ⟨rfl, rfl, rfl, rfl⟩)
      | (exfalso; omega)
  · skip
    refine r_tsIn (pc := 1) 176 dX11_tally_1 (by omega) (by omega) (by omega) (by rw [h1]; rfl) (by decide) ?_
    refine r_aload_n (pc := 176) dX11_tally_176 rfl ?_
    refine r_getP (pc := 177) dX11_tally_177 frX11_40 (by assumption) (by assumption) ?_
    refine r_getP (pc := 180) dX11_tally_180 frX11_72 (by assumption) (by assumption) ?_
    refine r_iload_n (pc := 183) dX11_tally_183 rfl ?_
    refine r_iconst (pc := 184) dX11_tally_184 ?_
    refine r_isub (pc := 185) dX11_tally_185 ?_
    refine i_V1ix (pc := 186) okX2_stock inX2_stock selX2_stock q357 dX11_tally_186 (by assumption) rfl (by decide) (Nat.le_of_ble_eq_true rfl) (sX2_stock (w := w.toNat - 2)) ?_
    refine t_iret (pc := 189) dX11_tally_189 rfl rfl ?_
    subst hq
    first
      | (subst h1; exact ⟨rfl, rfl, rfl, rfl⟩)
      | (exfalso; omega)
  · skip
    refine r_tsIn (pc := 1) 176 dX11_tally_1 (by omega) (by omega) (by omega) (by rw [h1]; rfl) (by decide) ?_
    refine r_aload_n (pc := 176) dX11_tally_176 rfl ?_
    refine r_getP (pc := 177) dX11_tally_177 frX11_40 (by assumption) (by assumption) ?_
    refine r_getP (pc := 180) dX11_tally_180 frX11_72 (by assumption) (by assumption) ?_
    refine r_iload_n (pc := 183) dX11_tally_183 rfl ?_
    refine r_iconst (pc := 184) dX11_tally_184 ?_
    refine r_isub (pc := 185) dX11_tally_185 ?_
    refine i_V1ix (pc := 186) okX2_stock inX2_stock selX2_stock q357 dX11_tally_186 (by assumption) rfl (by decide) (Nat.le_of_ble_eq_true rfl) (sX2_stock (w := w.toNat - 2)) ?_
    refine t_iret (pc := 189) dX11_tally_189 rfl rfl ?_
    subst hq
    first
      | (subst h1; exact ⟨rfl, rfl, rfl, rfl⟩)
      | (exfalso; omega)
  · skip
    refine r_tsIn (pc := 1) 176 dX11_tally_1 (by omega) (by omega) (by omega) (by rw [h1]; rfl) (by decide) ?_
    refine r_aload_n (pc := 176) dX11_tally_176 rfl ?_
    refine r_getP (pc := 177) dX11_tally_177 frX11_40 (by assumption) (by assumption) ?_
    refine r_getP (pc := 180) dX11_tally_180 frX11_72 (by assumption) (by assumption) ?_
    refine r_iload_n (pc := 183) dX11_tally_183 rfl ?_
    refine r_iconst (pc := 184) dX11_tally_184 ?_
    refine r_isub (pc := 185) dX11_tally_185 ?_
    refine i_V1ix (pc := 186) okX2_stock inX2_stock selX2_stock q357 dX11_tally_186 (by assumption) rfl (by decide) (Nat.le_of_ble_eq_true rfl) (sX2_stock (w := w.toNat - 2)) ?_
    refine t_iret (pc := 189) dX11_tally_189 rfl rfl ?_
    subst hq
    first
      | (subst h1; exact ⟨rfl, rfl, rfl, rfl⟩)
      | (exfalso; omega)
  · skip
    refine r_tsIn (pc := 1) 94 dX11_tally_1 (by omega) (by omega) (by omega) (by rw [h1]; rfl) (by decide) ?_
    refine r_aload_n (pc := 94) dX11_tally_94 rfl ?_
    refine r_getP (pc := 95) dX11_tally_95 frX11_40 (by assumption) (by assumption) ?_
    refine r_getP (pc := 98) dX11_tally_98 frX11_72 (by assumption) (by assumption) ?_
    refine r_getI (pc := 101) dX11_tally_101 frX11_93 (by assumption) ?_
    refine t_iret (pc := 104) dX11_tally_104 rfl rfl ?_
    subst hq
    first
      | (subst h1; exact ⟨rfl, rfl, rfl, rfl⟩)
      | (exfalso; omega)
  · skip
    refine r_tsIn (pc := 1) 105 dX11_tally_1 (by omega) (by omega) (by omega) (by rw [h1]; rfl) (by decide) ?_
    refine r_aload_n (pc := 105) dX11_tally_105 rfl ?_
    refine r_getP (pc := 106) dX11_tally_106 frX11_40 (by assumption) (by assumption) ?_
    refine r_getP (pc := 109) dX11_tally_109 frX11_191 (by assumption) (by assumption) ?_
    refine r_getI (pc := 112) dX11_tally_112 frX11_195 (by assumption) ?_
    refine t_iret (pc := 115) dX11_tally_115 rfl rfl ?_
    subst hq
    first
      | (subst h1; exact ⟨rfl, rfl, rfl, rfl⟩)
      | (exfalso; omega)
  · skip
    refine r_tsIn (pc := 1) 116 dX11_tally_1 (by omega) (by omega) (by omega) (by rw [h1]; rfl) (by decide) ?_
    refine r_aload_n (pc := 116) dX11_tally_116 rfl ?_
    refine r_getP (pc := 117) dX11_tally_117 frX11_40 (by assumption) (by assumption) ?_
    refine r_getP (pc := 120) dX11_tally_120 frX11_191 (by assumption) (by assumption) ?_
    refine r_getI (pc := 123) dX11_tally_123 frX11_217 (by assumption) ?_
    refine t_iret (pc := 126) dX11_tally_126 rfl rfl ?_
    subst hq
    first
      | (subst h1; exact ⟨rfl, rfl, rfl, rfl⟩)
      | (exfalso; omega)
  · skip
    refine r_tsIn (pc := 1) 127 dX11_tally_1 (by omega) (by omega) (by omega) (by rw [h1]; rfl) (by decide) ?_
    refine r_aload_n (pc := 127) dX11_tally_127 rfl ?_
    refine r_getP (pc := 128) dX11_tally_128 frX11_40 (by assumption) (by assumption) ?_
    refine r_getP (pc := 131) dX11_tally_131 frX11_191 (by assumption) (by assumption) ?_
    refine r_getI (pc := 134) dX11_tally_134 frX11_254 (by assumption) ?_
    refine t_iret (pc := 137) dX11_tally_137 rfl rfl ?_
    subst hq
    first
      | (subst h1; exact ⟨rfl, rfl, rfl, rfl⟩)
      | (exfalso; omega)
  · skip
    refine r_tsIn (pc := 1) 138 dX11_tally_1 (by omega) (by omega) (by omega) (by rw [h1]; rfl) (by decide) ?_
    refine r_aload_n (pc := 138) dX11_tally_138 rfl ?_
    refine r_getP (pc := 139) dX11_tally_139 frX11_40 (by assumption) (by assumption) ?_
    refine r_getP (pc := 142) dX11_tally_142 frX11_72 (by assumption) (by assumption) ?_
    refine r_getI (pc := 145) dX11_tally_145 frX11_331 (by assumption) ?_
    refine t_iret (pc := 148) dX11_tally_148 rfl rfl ?_
    subst hq
    first
      | (subst h1; exact ⟨rfl, rfl, rfl, rfl⟩)
      | (exfalso; omega)
  · skip
    refine r_tsIn (pc := 1) 149 dX11_tally_1 (by omega) (by omega) (by omega) (by rw [h1]; rfl) (by decide) ?_
    refine r_aload_n (pc := 149) dX11_tally_149 rfl ?_
    refine r_getP (pc := 150) dX11_tally_150 frX11_40 (by assumption) (by assumption) ?_
    refine r_getP (pc := 153) dX11_tally_153 frX11_72 (by assumption) (by assumption) ?_
    refine r_getI (pc := 156) dX11_tally_156 frX11_334 (by assumption) ?_
    refine t_iret (pc := 159) dX11_tally_159 rfl rfl ?_
    subst hq
    first
      | (subst h1; exact ⟨rfl, rfl, rfl, rfl⟩)
      | (exfalso; omega)
  · skip
    refine r_tsIn (pc := 1) 160 dX11_tally_1 (by omega) (by omega) (by omega) (by rw [h1]; rfl) (by decide) ?_
    refine r_aload_n (pc := 160) dX11_tally_160 rfl ?_
    refine r_getP (pc := 161) dX11_tally_161 frX11_40 (by assumption) (by assumption) ?_
    refine r_getI (pc := 164) dX11_tally_164 frX11_337 (by assumption) ?_
    refine t_iret (pc := 167) dX11_tally_167 rfl rfl ?_
    subst hq
    first
      | (subst h1; exact ⟨rfl, rfl, rfl, rfl⟩)
      | (exfalso; omega)
  · skip
    refine r_tsIn (pc := 1) 168 dX11_tally_1 (by omega) (by omega) (by omega) (by rw [h1]; rfl) (by decide) ?_
    refine r_aload_n (pc := 168) dX11_tally_168 rfl ?_
    refine r_getP (pc := 169) dX11_tally_169 frX11_10 (by assumption) (by assumption) ?_
    refine r_getI (pc := 172) dX11_tally_172 frX11_117 (by assumption) ?_
    refine t_iret (pc := 175) dX11_tally_175 rfl rfl ?_
    subst hq
    first
      | (subst h1; exact ⟨rfl, rfl, rfl, rfl⟩)
      | (exfalso; omega)
  · skip
    refine r_tsOut (pc := 1) 176 dX11_tally_1 (by omega) h1 (by decide) ?_
    refine r_aload_n (pc := 176) dX11_tally_176 rfl ?_
    refine r_getP (pc := 177) dX11_tally_177 frX11_40 (by assumption) (by assumption) ?_
    refine r_getP (pc := 180) dX11_tally_180 frX11_72 (by assumption) (by assumption) ?_
    refine r_iload_n (pc := 183) dX11_tally_183 rfl ?_
    refine r_iconst (pc := 184) dX11_tally_184 ?_
    refine r_isub (pc := 185) dX11_tally_185 ?_
    refine i_V1ix (pc := 186) okX2_stock inX2_stock selX2_stock q357 dX11_tally_186 (by assumption) rfl (by decide) (Nat.le_of_ble_eq_true rfl) (sX2_stock (w := w.toNat - 2)) ?_
    refine t_iret (pc := 189) dX11_tally_189 rfl rfl ?_
    subst hq
    first
      | (subst h1; exact ⟨rfl, rfl, rfl, rfl⟩)
      | (exfalso; omega)
def gcdR : Nat → Int → Int → Int
  | 0, a, _ => a
  | d + 1, a, b => if b = 0 then a else gcdR d b (a % b)
theorem sX11_commonDivisor {a b : Int} (ha : 0 ≤ a ∧ a ≤ 1000000000 := by omega) (hb : 0 ≤ b ∧ b ≤ 1000000000 := by omega) : SX11_commonDivisor G [.long (zL a), .long (zL b)] C I P L (NL C (XI (gcdR 100 a b) I P L)) := by
  generalize hq : XI (gcdR 100 a b) I P L = q
  refine en_L (by decide +kernel) (Nat.le_of_ble_eq_true rfl) ?_
  change Wd _ _ _ _ _ _ _ _ 0 [some _, none, some _, none, none, none, none, none, none, none, none] [] _ _ _ _
  have loop : ∀ (d n : Nat) (i x y : Int) (z z2 : Option Value), n + d = 100 → i = (n : Int) → 0 ≤ x ∧ x ≤ 1000000000 → 0 ≤ y ∧ y ≤ 1000000000 → gcdR d x y = gcdR 100 a b → Wd G yX11_commonDivisor cX11_commonDivisor 11 (some .long) 0 (C.2.1 + 0, C.2.2 + 0) (NL C q) 9 [some (.long (zL a)), none, some (.long (zL b)), none, some (.long (zL x)), none, some (.long (zL y)), none, some (.int (zI i)), z, z2] [] C I P L := by
    intro d
    induction d with
    | zero =>
      intro n i x y z z2 hd hi hx hy hg
      refine r_iload (pc := 9) dX11_commonDivisor_9 rfl ?_
      refine r_bipush (pc := 11) dX11_commonDivisor_11 (by decide) ?_
      refine r_icmp_ge (pc := 13) 44 dX11_commonDivisor_13 (by decide) (by omega) (by omega) (fun h13 => ?_) (fun h13 => ?_)
      · skip
        refine r_lload (pc := 44) dX11_commonDivisor_44 rfl ?_
        refine t_lret (pc := 46) dX11_commonDivisor_46 rfl ?_
        subst hq; exact ⟨by rw [← hg]; rfl, rfl, rfl, rfl⟩
      · exfalso; omega
    | succ d ih =>
      intro n i x y z z2 hd hi hx hy hg
      rw [gcdR] at hg
      refine r_iload (pc := 9) dX11_commonDivisor_9 rfl ?_
      refine r_bipush (pc := 11) dX11_commonDivisor_11 (by decide) ?_
      refine r_icmp_ge (pc := 13) 44 dX11_commonDivisor_13 (by decide) (by omega) (by omega) (fun h13 => ?_) (fun h13 => ?_)
      · exfalso; omega
      · skip
        refine r_lload (pc := 16) dX11_commonDivisor_16 rfl ?_
        refine r_lconst (v := 0) (pc := 18) dX11_commonDivisor_18 (by decide) ?_
        refine r_lcmp_eq (pc := 19) 44 dX11_commonDivisor_19 dX11_commonDivisor_20 (by decide) (by omega) (by omega) (fun h19 => ?_) (fun h19 => ?_)
        · skip
          rw [if_pos h19] at hg
          refine r_lload (pc := 44) dX11_commonDivisor_44 rfl ?_
          refine t_lret (pc := 46) dX11_commonDivisor_46 rfl ?_
          subst hq; exact ⟨hg, rfl, rfl, rfl⟩
        · skip
          rw [if_neg h19] at hg
          have hm1 := Int.emod_nonneg x h19
          have hm2 := Int.emod_lt_of_pos x (show 0 < y by omega)
          refine r_lload (pc := 23) dX11_commonDivisor_23 rfl ?_
          refine r_lload (pc := 25) dX11_commonDivisor_25 rfl ?_
          refine r_lrem (pc := 27) dX11_commonDivisor_27 (by omega) (by omega) (by omega) (by omega) ?_
          refine r_lstore (pc := 28) dX11_commonDivisor_28 (by decide) ?_
          refine r_lload (pc := 30) dX11_commonDivisor_30 rfl ?_
          refine r_lstore (pc := 32) dX11_commonDivisor_32 (by decide) ?_
          refine r_lload (pc := 34) dX11_commonDivisor_34 rfl ?_
          refine r_lstore (pc := 36) dX11_commonDivisor_36 (by decide) ?_
          refine r_iinc (pc := 38) dX11_commonDivisor_38 rfl ?_
          refine r_goto (pc := 41) 9 dX11_commonDivisor_41 (by decide) ?_
          exact ih (n + 1) _ _ _ _ _ (by omega) (by omega) hy ⟨hm1, by omega⟩ hg
  refine r_lload_n (pc := 0) dX11_commonDivisor_0 rfl ?_
  refine r_lstore (pc := 1) dX11_commonDivisor_1 (by decide) ?_
  refine r_lload_n (pc := 3) dX11_commonDivisor_3 rfl ?_
  refine r_lstore (pc := 4) dX11_commonDivisor_4 (by decide) ?_
  refine r_iconst (pc := 6) dX11_commonDivisor_6 ?_
  refine r_istore (pc := 7) dX11_commonDivisor_7 (by decide) ?_
  exact loop 100 0 _ _ _ _ _ (by omega) (by omega) ha hb rfl
end Y

