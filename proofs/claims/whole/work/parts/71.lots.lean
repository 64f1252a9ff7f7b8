/-! lots, meet, digest -/
def lcg (x : Int) : Nat → Int
  | 0 => x
  | n + 1 => (lcg x n * 1103515245 + 12345) % 2147483648
theorem lcg_in {x : Int} (h : 0 ≤ x ∧ x < 2147483648) : ∀ n, 0 ≤ lcg x n ∧ lcg x n < 2147483648 := by
  intro n
  induction n with
  | zero => exact h
  | succ n ih => unfold lcg; omega
theorem und_in (s : Nat) : ∀ (m f : Nat) (h : Int), 0 ≤ undR s m f h ∧ undR s m f h ≤ f + m := by
  intro m
  induction m with
  | zero => intro f h; unfold undR; omega
  | succ m ih =>
    intro f h
    unfold undR
    have h1 := ih (f + 1) h
    have h2 := ih (f + 1) (h - 1)
    split
    · omega
    · split <;> omega
def lotF (x : Int) (z : Nat) : Nat → Nat
  | 0 => 0
  | n + 1 => lotF x z n ||| 2 ^ (undR (lotF x z n) z 0 ((lcg x (n + 1) / 65536) % ((z : Int) - n))).toNat
theorem lotF_in (x : Int) {z : Nat} (hz : z ≤ 6) : ∀ n, lotF x z n < 2 ^ 7 := by
  intro n
  induction n with
  | zero => show 0 < 2 ^ 7; decide
  | succ n ih =>
    unfold lotF
    have h := und_in (lotF x z n) z 0 ((lcg x (n + 1) / 65536) % ((z : Int) - n))
    exact Nat.or_lt_two_pow ih (Nat.pow_lt_pow_right (by decide) (by omega))
def lotsS (S : YS) (x k : Int) : Int × YS := if (0 ≤ x ∧ x ≤ 999999) ∧ (0 ≤ k ∧ k ≤ S.1.1 6) then ((lotF x (sizeF S.1.1) k.toNat : Int), S) else (-2, yB S)
theorem sX11_lots {G : WG} {C : CF} {I : MI} {P : MP} {L : ML} {Y x k : Int} (h : YI G C I P Y := by assumption) (hx' : iR x := by omega) (hk' : iR k := by omega) : SX11_lots G [.ref (gB G), .int (zI x), .int (zI k)] C I P L (NI C (QY G (lotsS (rdY G I L) x k).1 (lotsS (rdY G I L) x k).2 Y C)) := by
  have hyl := h.1
  obtain ⟨hK, hK4, hP0, hP1, hP2, hP3, hP4, hP5, hP6, hr, hl, hl2, hl3, hl4, htr, hKd⟩ := id hyl
  have hKl := hl.2.1
  have hKt := htr.2.1
  have hPb : P (gB G + 11) 1 = some (gB G + 12) := hl.2.2.2.2.1
  have hb : BooksL G C P (gB G + 12) := hl.2.2.2.2.2.2.1
  have hKb := hb.2.1
  have hBI : BI (rdB I (gB G + 12)) := h.2.1.1.2.1
  have hPf : P (gB G + 11) 0 = some (gB G + 21) := hl.2.2.2.1
  have hf : FarmL G C P (gB G + 21) := hl.2.2.2.2.2.2.2.1
  have hKf := hf.2.1
  have hF : FI (rdF I (gB G + 21)) Y := h.2.1.1.1
  have hW : WayL C P (gB G + 21) (rdF I (gB G + 21)) := h.2.2.1.1.1
  have hs6 := hF.2.2.2.2.2.2.1
  have e10 : I (gB G + 21) 10 = rdF I (gB G + 21) 6 := at_10 I (gB G + 21)
  have eS : (rdY G I L).1.1 6 = rdF I (gB G + 21) 6 := rfl
  have hw4 := hBI.2.2.2.1
  have e3 : I (gB G + 12) 3 = ((rdB I (gB G + 12) 90).toNat : Int) := by rw [ab_3 I (gB G + 12)]; omega
  have e3' : I (gB G + 12) 3 = rdB I (gB G + 12) 90 := ab_3 I (gB G + 12)
  have eS3 : (rdY G I L).1.2.1 90 = rdB I (gB G + 12) 90 := rfl
  obtain ⟨hz6, hsz⟩ := sizeF_le hF
  have ez : I (gB G + 21) 10 = (sizeF (rdF I (gB G + 21)) : Int) := by omega
  have eF : (rdY G I L).1.1 = rdF I (gB G + 21) := rfl
  generalize hzz : sizeF (rdF I (gB G + 21)) = z at hz6 hsz ez
  refine en_I (by decide +kernel) (Nat.le_of_ble_eq_true rfl) ?_
  change Wd _ _ _ _ _ _ _ _ 0 [some _, some _, some _, none, none, none, none, none, none] [] _ _ _ _
  have loop : (0 ≤ x ∧ x ≤ 999999) ∧ (0 ≤ k ∧ k ≤ (rdY G I L).1.1 6) → ∀ (d f : Nat) (i q : Int) (w : Option Value), f + d = k.toNat → i = (f : Int) → q = (lotF x z f : Int) → Wd G yX11_lots cX11_lots 9 (some .int) 1 (C.2.1 + 0, C.2.2 + 0) (NI C (QY G (lotsS (rdY G I L) x k).1 (lotsS (rdY G I L) x k).2 Y C)) 47 [some (.ref (gB G)), some (.int (zI x)), some (.int (zI k)), some (.int (zI (z : Int))), some (.long (zL (lcg x f))), none, some (.int (zI q)), some (.int (zI i)), w] [] C I P L := by
    intro hz d
    have hlc := lcg_in (x := x) (by omega)
    induction d with
    | zero =>
      intro f i q w hd hi hq
      refine r_iload (pc := 47) dX11_lots_47 rfl ?_
      refine r_iload_n (pc := 49) dX11_lots_49 rfl ?_
      refine r_icmp_ge (pc := 50) 106 dX11_lots_50 (by decide) (by omega) (by omega) (fun h50 => ?_) (fun h50 => ?_)
      · skip
        refine r_iload (pc := 106) dX11_lots_106 rfl ?_
        refine t_iret (pc := 108) dX11_lots_108 rfl rfl ?_
        unfold lotsS
        rw [if_pos hz, eF, hzz, hq, show f = k.toNat by omega]
        exact QY_same h
      · exfalso; omega
    | succ d ih =>
      intro f i q w hd hi hq
      have l0 := hlc f
      have l1 := hlc (f + 1)
      have hlt := lotF_in x hz6 f
      have hu := und_in (lotF x z f) z 0 ((lcg x (f + 1) / 65536) % ((z : Int) - f))
      have hm0 := Int.emod_nonneg (lcg x (f + 1) / 65536) (show (z : Int) - f ≠ 0 by omega)
      have hm1 := Int.emod_lt_of_pos (lcg x (f + 1) / 65536) (show 0 < (z : Int) - f by omega)
      have ex : lcg x (f + 1) = (lcg x f * 1103515245 + 12345) % 2147483648 := rfl
      have eu : undR (lotF x z f) z 0 ((lcg x (f + 1) / 65536) % ((z : Int) - f)) = ((undR (lotF x z f) z 0 ((lcg x (f + 1) / 65536) % ((z : Int) - f))).toNat : Int) := by omega
      refine r_iload (pc := 47) dX11_lots_47 rfl ?_
      refine r_iload_n (pc := 49) dX11_lots_49 rfl ?_
      refine r_icmp_ge (pc := 50) 106 dX11_lots_50 (by decide) (by omega) (by omega) (fun h50 => ?_) (fun h50 => ?_)
      · exfalso; omega
      · skip
        refine r_lload (pc := 53) dX11_lots_53 rfl ?_
        refine r_ldc2_w (v := (1103515245 : Int)) (pc := 55) dX11_lots_55 kcX11_236 ?_
        refine r_lmul (pc := 58) dX11_lots_58 ?_
        refine r_ldc2_w (v := (12345 : Int)) (pc := 59) dX11_lots_59 kcX11_238 ?_
        refine r_ladd (pc := 62) dX11_lots_62 ?_
        refine r_ldc2_w (v := (2147483648 : Int)) (pc := 63) dX11_lots_63 kcX11_240 ?_
        refine r_lrem (pc := 66) dX11_lots_66 (by omega) (by omega) (by omega) (by omega) ?_
        rw [← ex]
        refine r_lstore (pc := 67) dX11_lots_67 (by decide) ?_
        refine r_lload (pc := 69) dX11_lots_69 rfl ?_
        refine r_ldc2_w (v := (65536 : Int)) (pc := 71) dX11_lots_71 kcX11_242 ?_
        refine r_ldiv (pc := 74) dX11_lots_74 (by omega) (by omega) (by omega) (by omega) ?_
        refine r_l2i (pc := 75) dX11_lots_75 ?_
        refine r_iload_n (pc := 76) dX11_lots_76 rfl ?_
        refine r_iload (pc := 77) dX11_lots_77 rfl ?_
        refine r_isub (pc := 79) dX11_lots_79 ?_
        refine i_S2ix (pc := 80) okX11_leftOver staX11_leftOver q917 dX11_lots_80 (by decide) (Nat.le_of_ble_eq_true rfl) (sX11_leftOver) ?_
        refine r_istore (pc := 83) dX11_lots_83 (by decide) ?_
        rw [hi]
        refine r_iload (pc := 85) dX11_lots_85 rfl ?_
        refine r_iconst (pc := 87) dX11_lots_87 ?_
        refine r_iload (pc := 88) dX11_lots_88 rfl ?_
        refine r_iload (pc := 90) dX11_lots_90 rfl ?_
        refine r_iload_n (pc := 92) dX11_lots_92 rfl ?_
        refine i_S3ix (pc := 93) okX11_undrawn staX11_undrawn q918 dX11_lots_93 (by decide) (Nat.le_of_ble_eq_true rfl) (sX11_undrawn (s := lotF x z f) (z := z)) ?_
        refine r_ishl (pc := 96) dX11_lots_96 ?_
        refine r_ior (pc := 97) dX11_lots_97 ?_
        refine r_istore (pc := 98) dX11_lots_98 (by decide) ?_
        refine r_iinc (pc := 100) dX11_lots_100 rfl ?_
        refine r_goto (pc := 103) 47 dX11_lots_103 (by decide) ?_
        rw [eu, b_shl1 (by omega), hq, b_orN (k := 7) hlt (Nat.pow_lt_pow_right (by decide) (by omega)) (by decide)]
        exact ih (f + 1) _ _ _ (by omega) (by omega) rfl
  refine r_aload_n (pc := 0) dX11_lots_0 rfl ?_
  refine r_getP (pc := 1) dX11_lots_1 frX11_40 (by assumption) (by assumption) ?_
  refine r_getP (pc := 4) dX11_lots_4 frX11_72 (by assumption) (by assumption) ?_
  refine r_getI (pc := 7) dX11_lots_7 frX11_93 (by assumption) ?_
  refine r_istore_n (pc := 10) dX11_lots_10 (by decide) ?_
  rw [ez]
  refine r_iload_n (pc := 11) dX11_lots_11 rfl ?_
  refine r_iconst (pc := 12) dX11_lots_12 ?_
  refine r_ldc (v := (999999 : Int)) (pc := 13) dX11_lots_13 kcX11_235 ?_
  refine i_S3ix (pc := 15) okX11_within staX11_within q334 dX11_lots_15 (by decide) (Nat.le_of_ble_eq_true rfl) (sX11_within) ?_
  refine r_if_eq (pc := 18) 30 dX11_lots_18 (by decide) (by first | omega | (split <;> decide)) (fun h18 => ?_) (fun h18 => ?_)
  · skip
    refine r_aload_n (pc := 30) dX11_lots_30 rfl ?_
    refine r_bipush (pc := 31) dX11_lots_31 (by decide) ?_
    refine i_V1ix (pc := 33) okX11_refuseBad inX11_refuseBad selX11_refuseBad q337 dX11_lots_33 (by assumption) rfl (by decide) (Nat.le_of_ble_eq_true rfl) (sX11_refuseBad) ?_
    refine t_iret (pc := 36) dX11_lots_36 rfl rfl ?_
    have hz : ¬ ((0 ≤ x ∧ x ≤ 999999) ∧ (0 ≤ k ∧ k ≤ (rdY G I L).1.1 6)) := by
      first
      | exact fun hz => (wf h18) hz.1
      | exact fun hz => (wf h27) (by omega)
    unfold lotsS
    rw [if_neg hz]
    exact QY_bad h
  · skip
    refine r_iload_n (pc := 21) dX11_lots_21 rfl ?_
    refine r_iconst (pc := 22) dX11_lots_22 ?_
    refine r_iload_n (pc := 23) dX11_lots_23 rfl ?_
    refine i_S3ix (pc := 24) okX11_within staX11_within q334 dX11_lots_24 (by decide) (Nat.le_of_ble_eq_true rfl) (sX11_within) ?_
    refine r_if_ne (pc := 27) 37 dX11_lots_27 (by decide) (by first | omega | (split <;> decide)) (fun h27 => ?_) (fun h27 => ?_)
    · skip
      have h1 := wt h18
      have h2 := wt h27
      refine r_iload_n (pc := 37) dX11_lots_37 rfl ?_
      refine r_i2l (pc := 38) dX11_lots_38 (by first | omega | (split <;> decide)) ?_
      refine r_lstore (pc := 39) dX11_lots_39 (by decide) ?_
      refine r_iconst (pc := 41) dX11_lots_41 ?_
      refine r_istore (pc := 42) dX11_lots_42 (by decide) ?_
      refine r_iconst (pc := 44) dX11_lots_44 ?_
      refine r_istore (pc := 45) dX11_lots_45 (by decide) ?_
      exact loop ⟨h1, by omega⟩ k.toNat 0 _ _ _ (by omega) (by omega) rfl
    · skip
      refine r_aload_n (pc := 30) dX11_lots_30 rfl ?_
      refine r_bipush (pc := 31) dX11_lots_31 (by decide) ?_
      refine i_V1ix (pc := 33) okX11_refuseBad inX11_refuseBad selX11_refuseBad q337 dX11_lots_33 (by assumption) rfl (by decide) (Nat.le_of_ble_eq_true rfl) (sX11_refuseBad) ?_
      refine t_iret (pc := 36) dX11_lots_36 rfl rfl ?_
      have hz : ¬ ((0 ≤ x ∧ x ≤ 999999) ∧ (0 ≤ k ∧ k ≤ (rdY G I L).1.1 6)) := by
        first
        | exact fun hz => (wf h18) hz.1
        | exact fun hz => (wf h27) (by omega)
      unfold lotsS
      rw [if_neg hz]
      exact QY_bad h
def meetF (s a z : Int) : Nat → Int → Int
  | 0, _ => -1
  | d + 1, t => if t < s * z then (if t % s = a then t else meetF s a z d (t + z)) else -1
def meetS (S : YS) (z r : Int) : Int × YS := if (2 ≤ z ∧ z ≤ 70) ∧ (0 ≤ r ∧ r ≤ z - 1) then (meetF (S.1.1 0) (awayF S.1.1) z 100 r, S) else (-2, yB S)
theorem sX11_meet {G : WG} {C : CF} {I : MI} {P : MP} {L : ML} {Y z r : Int} (h : YI G C I P Y := by assumption) (hY : Y ≤ 900000 := by omega) (hz' : iR z := by omega) (hr' : iR r := by omega) : SX11_meet G [.ref (gB G), .int (zI z), .int (zI r)] C I P L (NI C (QY G (meetS (rdY G I L) z r).1 (meetS (rdY G I L) z r).2 Y C)) := by
  have hyl := h.1
  obtain ⟨hK, hK4, hP0, hP1, hP2, hP3, hP4, hP5, hP6, hr, hl, hl2, hl3, hl4, htr, hKd⟩ := id hyl
  have hKl := hl.2.1
  have hKt := htr.2.1
  have hPb : P (gB G + 11) 1 = some (gB G + 12) := hl.2.2.2.2.1
  have hb : BooksL G C P (gB G + 12) := hl.2.2.2.2.2.2.1
  have hKb := hb.2.1
  have hBI : BI (rdB I (gB G + 12)) := h.2.1.1.2.1
  have hPf : P (gB G + 11) 0 = some (gB G + 21) := hl.2.2.2.1
  have hf : FarmL G C P (gB G + 21) := hl.2.2.2.2.2.2.2.1
  have hKf := hf.2.1
  have hF : FI (rdF I (gB G + 21)) Y := h.2.1.1.1
  have hW : WayL C P (gB G + 21) (rdF I (gB G + 21)) := h.2.2.1.1.1
  have hs6 := hF.2.2.2.2.2.2.1
  have e10 : I (gB G + 21) 10 = rdF I (gB G + 21) 6 := at_10 I (gB G + 21)
  have eS : (rdY G I L).1.1 6 = rdF I (gB G + 21) 6 := rfl
  have hw4 := hBI.2.2.2.1
  have e3 : I (gB G + 12) 3 = ((rdB I (gB G + 12) 90).toNat : Int) := by rw [ab_3 I (gB G + 12)]; omega
  have e3' : I (gB G + 12) 3 = rdB I (gB G + 12) 90 := ab_3 I (gB G + 12)
  have eS3 : (rdY G I L).1.2.1 90 = rdB I (gB G + 12) 90 := rfl
  have hsp : 2 ≤ rdF I (gB G + 21) 0 ∧ rdF I (gB G + 21) 0 ≤ 70 := hF.1
  have es : I (gB G + 21) 4 = rdF I (gB G + 21) 0 := rfl
  have hm1 := Int.emod_nonneg (rdF I (gB G + 21) 1) (show rdF I (gB G + 21) 0 ≠ 0 by omega)
  have hm2 := Int.emod_lt_of_pos (rdF I (gB G + 21) 1) (show 0 < rdF I (gB G + 21) 0 by omega)
  have eF : (rdY G I L).1.1 = rdF I (gB G + 21) := rfl
  have ea : awayF (rdF I (gB G + 21)) = rdF I (gB G + 21) 0 - 1 - rdF I (gB G + 21) 1 % rdF I (gB G + 21) 0 := rfl
  generalize rdF I (gB G + 21) 0 - 1 - rdF I (gB G + 21) 1 % rdF I (gB G + 21) 0 = a at ea
  have ha : 0 ≤ a ∧ a ≤ 69 := by rw [← ea]; unfold awayF; omega
  refine en_I (by decide +kernel) (Nat.le_of_ble_eq_true rfl) ?_
  change Wd _ _ _ _ _ _ _ _ 0 [some _, some _, some _, none, none, none] [] _ _ _ _
  have loop : (2 ≤ z ∧ z ≤ 70) ∧ (0 ≤ r ∧ r ≤ z - 1) → ∀ (d : Nat) (t : Int), 0 ≤ t → t < 5100 → rdF I (gB G + 21) 0 * z ≤ t + z * (d : Int) → meetF (rdF I (gB G + 21) 0) a z 100 r = meetF (rdF I (gB G + 21) 0) a z (d + 1) t → Wd G yX11_meet cX11_meet 6 (some .int) 2 (C.2.1 + 0, C.2.2 + 0) (NI C (QY G (meetS (rdY G I L) z r).1 (meetS (rdY G I L) z r).2 Y C)) 54 [some (.ref (gB G)), some (.int (zI z)), some (.int (zI r)), some (.int (zI (rdF I (gB G + 21) 0))), some (.int (zI a)), some (.int (zI t))] [] C I P L := by
    intro hz d
    have hM0 : 0 ≤ rdF I (gB G + 21) 0 * z := Int.mul_nonneg (by omega) (by omega)
    have hM1 : rdF I (gB G + 21) 0 * z ≤ 70 * z := Int.mul_le_mul_of_nonneg_right hsp.2 (by omega)
    have hS : meetS (rdY G I L) z r = (meetF (rdF I (gB G + 21) 0) a z 100 r, rdY G I L) := by
      unfold meetS; rw [if_pos hz, eF, ea]
    rw [hS]
    induction d with
    | zero =>
      intro t ht0 ht1 hb he
      refine r_iload (pc := 54) dX11_meet_54 rfl ?_
      refine r_iload_n (pc := 56) dX11_meet_56 rfl ?_
      refine r_iload_n (pc := 57) dX11_meet_57 rfl ?_
      refine r_imul (pc := 58) dX11_meet_58 ?_
      refine r_icmp_ge (pc := 59) 85 dX11_meet_59 (by decide) (by omega) (by omega) (fun h59 => ?_) (fun h59 => ?_)
      · skip
        refine r_iconst (pc := 85) dX11_meet_85 ?_
        refine t_iret (pc := 86) dX11_meet_86 rfl rfl ?_
        refine ⟨?_, rfl, h⟩
        show (-1 : Int) = meetF (rdF I (gB G + 21) 0) a z 100 r
        rw [he, meetF, if_neg (by omega)]
      · exfalso; omega
    | succ d ih =>
      intro t ht0 ht1 hb he
      have hb2 : rdF I (gB G + 21) 0 * z ≤ t + z + z * (d : Int) := by
        rw [show ((d + 1 : Nat) : Int) = (d : Int) + 1 by omega, Int.mul_add, Int.mul_one] at hb; omega
      have hm3 := Int.emod_nonneg t (show rdF I (gB G + 21) 0 ≠ 0 by omega)
      have hm4 := Int.emod_lt_of_pos t (show 0 < rdF I (gB G + 21) 0 by omega)
      refine r_iload (pc := 54) dX11_meet_54 rfl ?_
      refine r_iload_n (pc := 56) dX11_meet_56 rfl ?_
      refine r_iload_n (pc := 57) dX11_meet_57 rfl ?_
      refine r_imul (pc := 58) dX11_meet_58 ?_
      refine r_icmp_ge (pc := 59) 85 dX11_meet_59 (by decide) (by omega) (by omega) (fun h59 => ?_) (fun h59 => ?_)
      · skip
        refine r_iconst (pc := 85) dX11_meet_85 ?_
        refine t_iret (pc := 86) dX11_meet_86 rfl rfl ?_
        refine ⟨?_, rfl, h⟩
        show (-1 : Int) = meetF (rdF I (gB G + 21) 0) a z 100 r
        rw [he, meetF, if_neg (by omega)]
      · skip
        refine r_iload (pc := 62) dX11_meet_62 rfl ?_
        refine r_iload_n (pc := 64) dX11_meet_64 rfl ?_
        refine i_S2ix (pc := 65) okX11_leftOver staX11_leftOver q917 dX11_meet_65 (by decide) (Nat.le_of_ble_eq_true rfl) (sX11_leftOver) ?_
        refine r_iload (pc := 68) dX11_meet_68 rfl ?_
        refine r_icmp_ne (pc := 70) 76 dX11_meet_70 (by decide) (by omega) (by omega) (fun h70 => ?_) (fun h70 => ?_)
        · skip
          refine r_iload (pc := 76) dX11_meet_76 rfl ?_
          refine r_iload_n (pc := 78) dX11_meet_78 rfl ?_
          refine r_iadd (pc := 79) dX11_meet_79 ?_
          refine r_istore (pc := 80) dX11_meet_80 (by decide) ?_
          refine r_goto (pc := 82) 54 dX11_meet_82 (by decide) ?_
          refine ih (t + z) (by omega) (by omega) hb2 ?_
          rw [he, meetF, if_pos (by omega), if_neg (by omega)]
        · skip
          refine r_iload (pc := 73) dX11_meet_73 rfl ?_
          refine t_iret (pc := 75) dX11_meet_75 rfl rfl ?_
          refine ⟨?_, rfl, h⟩
          show t = meetF (rdF I (gB G + 21) 0) a z 100 r
          rw [he, meetF, if_pos (by omega), if_pos (by omega)]
  refine r_iload_n (pc := 0) dX11_meet_0 rfl ?_
  refine r_iconst (pc := 1) dX11_meet_1 ?_
  refine r_bipush (pc := 2) dX11_meet_2 (by decide) ?_
  refine i_S3ix (pc := 4) okX11_within staX11_within q334 dX11_meet_4 (by decide) (Nat.le_of_ble_eq_true rfl) (sX11_within) ?_
  refine r_if_eq (pc := 7) 21 dX11_meet_7 (by decide) (by first | omega | (split <;> decide)) (fun h7 => ?_) (fun h7 => ?_)
  · skip
    refine r_aload_n (pc := 21) dX11_meet_21 rfl ?_
    refine r_bipush (pc := 22) dX11_meet_22 (by decide) ?_
    refine i_V1ix (pc := 24) okX11_refuseBad inX11_refuseBad selX11_refuseBad q337 dX11_meet_24 (by assumption) rfl (by decide) (Nat.le_of_ble_eq_true rfl) (sX11_refuseBad) ?_
    refine t_iret (pc := 27) dX11_meet_27 rfl rfl ?_
    have hz : ¬ ((2 ≤ z ∧ z ≤ 70) ∧ (0 ≤ r ∧ r ≤ z - 1)) := by
      first
      | exact fun hz => (wf h7) hz.1
      | exact fun hz => (wf h18) hz.2
    unfold meetS
    rw [if_neg hz]
    exact QY_bad h
  · skip
    refine r_iload_n (pc := 10) dX11_meet_10 rfl ?_
    refine r_iconst (pc := 11) dX11_meet_11 ?_
    refine r_iload_n (pc := 12) dX11_meet_12 rfl ?_
    refine r_iconst (pc := 13) dX11_meet_13 ?_
    refine r_isub (pc := 14) dX11_meet_14 ?_
    refine i_S3ix (pc := 15) okX11_within staX11_within q334 dX11_meet_15 (by decide) (Nat.le_of_ble_eq_true rfl) (sX11_within) ?_
    refine r_if_ne (pc := 18) 28 dX11_meet_18 (by decide) (by first | omega | (split <;> decide)) (fun h18 => ?_) (fun h18 => ?_)
    · skip
      refine r_aload_n (pc := 28) dX11_meet_28 rfl ?_
      refine r_getP (pc := 29) dX11_meet_29 frX11_40 (by assumption) (by assumption) ?_
      refine r_getP (pc := 32) dX11_meet_32 frX11_72 (by assumption) (by assumption) ?_
      have h1 := wt h7
      have h2 := wt h18
      have hM1 : rdF I (gB G + 21) 0 * z ≤ 70 * z := Int.mul_le_mul_of_nonneg_right hsp.2 (by omega)
      refine r_getI (pc := 35) dX11_meet_35 frX11_76 (by assumption) ?_
      refine r_istore_n (pc := 38) dX11_meet_38 (by decide) ?_
      refine r_aload_n (pc := 39) dX11_meet_39 rfl ?_
      refine r_getP (pc := 40) dX11_meet_40 frX11_40 (by assumption) (by assumption) ?_
      refine r_getP (pc := 43) dX11_meet_43 frX11_72 (by assumption) (by assumption) ?_
      refine i_V0ix (pc := 46) okX2_yearsToNoon inX2_yearsToNoon selX2_yearsToNoon q835 dX11_meet_46 (by assumption) rfl (by decide) (Nat.le_of_ble_eq_true rfl) (sX2_yearsToNoon (Y := Y)) ?_
      rw [show rdF I (gB G + 21) 0 - 1 - rdF I (gB G + 21) 1 % rdF I (gB G + 21) 0 = a from ea]
      refine r_istore (pc := 49) dX11_meet_49 (by decide) ?_
      refine r_iload_n (pc := 51) dX11_meet_51 rfl ?_
      refine r_istore (pc := 52) dX11_meet_52 (by decide) ?_
      exact loop ⟨h1, h2⟩ 99 r (by omega) (by omega) (by omega) rfl
    · skip
      refine r_aload_n (pc := 21) dX11_meet_21 rfl ?_
      refine r_bipush (pc := 22) dX11_meet_22 (by decide) ?_
      refine i_V1ix (pc := 24) okX11_refuseBad inX11_refuseBad selX11_refuseBad q337 dX11_meet_24 (by assumption) rfl (by decide) (Nat.le_of_ble_eq_true rfl) (sX11_refuseBad) ?_
      refine t_iret (pc := 27) dX11_meet_27 rfl rfl ?_
      have hz : ¬ ((2 ≤ z ∧ z ≤ 70) ∧ (0 ≤ r ∧ r ≤ z - 1)) := by
        first
        | exact fun hz => (wf h7) hz.1
        | exact fun hz => (wf h18) hz.2
      unfold meetS
      rw [if_neg hz]
      exact QY_bad h
def w32 (x : Int) : Int := (zI x).toInt
def talN (F B : Nat → Int) (u n h : Int) : Nat → Int
  | 0 => h
  | k + 1 => 31 * talN F B u n h k + w32 (tallyS F B u n (k : Int))
def digS (S : YS) : Int := 31 * (31 * mixB S.1.2.1 (mixF S.1.1 (talN S.1.1 S.1.2.1 S.1.2.2.2.1 S.2.2.2.2.1 827 14) (sizeF S.1.1)) + S.2.2.2.2.2.2.2.2.2.1) + S.2.2.2.2.2.2.2.2.2.2
theorem sX11_digest {G : WG} {C : CF} {I : MI} {P : MP} {L : ML} {Y : Int} (h : YI G C I P Y := by assumption) : SX11_digest G [.ref (gB G)] C I P L (NL C (QY G (digS (rdY G I L)) (rdY G I L) Y C)) := by
  have hyl := h.1
  obtain ⟨hK, hK4, hP0, hP1, hP2, hP3, hP4, hP5, hP6, hr, hl, hl2, hl3, hl4, htr, hKd⟩ := id hyl
  have hKl := hl.2.1
  have hKt := htr.2.1
  have hPb : P (gB G + 11) 1 = some (gB G + 12) := hl.2.2.2.2.1
  have hb : BooksL G C P (gB G + 12) := hl.2.2.2.2.2.2.1
  have hKb := hb.2.1
  have hBI : BI (rdB I (gB G + 12)) := h.2.1.1.2.1
  have hPf : P (gB G + 11) 0 = some (gB G + 21) := hl.2.2.2.1
  have hf : FarmL G C P (gB G + 21) := hl.2.2.2.2.2.2.2.1
  have hKf := hf.2.1
  have hF : FI (rdF I (gB G + 21)) Y := h.2.1.1.1
  have hW : WayL C P (gB G + 21) (rdF I (gB G + 21)) := h.2.2.1.1.1
  have hs6 := hF.2.2.2.2.2.2.1
  have e10 : I (gB G + 21) 10 = rdF I (gB G + 21) 6 := at_10 I (gB G + 21)
  have eS : (rdY G I L).1.1 6 = rdF I (gB G + 21) 6 := rfl
  have hw4 := hBI.2.2.2.1
  have e3 : I (gB G + 12) 3 = ((rdB I (gB G + 12) 90).toNat : Int) := by rw [ab_3 I (gB G + 12)]; omega
  have e3' : I (gB G + 12) 3 = rdB I (gB G + 12) 90 := ab_3 I (gB G + 12)
  have eS3 : (rdY G I L).1.2.1 90 = rdB I (gB G + 12) 90 := rfl
  refine en_L (by decide +kernel) (Nat.le_of_ble_eq_true rfl) ?_
  change Wd _ _ _ _ _ _ _ _ 0 [some _, none, none, none] [] _ _ _ _
  have loop : ∀ (d f : Nat) (i k : Int), f + d = 14 → i = (f : Int) → k = talN (rdF I (gB G + 21)) (rdB I (gB G + 12)) (I (gB G + 11) 4) (I (gB G + 1) 2) 827 f → Wd G yX11_digest cX11_digest 4 (some .long) 2 (C.2.1 + 0, C.2.2 + 0) (NL C (QY G (digS (rdY G I L)) (rdY G I L) Y C)) 6 [some (.ref (gB G)), some (.long (zL k)), none, some (.int (zI i))] [] C I P L := by
    intro d
    induction d with
    | zero =>
      intro f i k hd hi hk
      refine r_iload_n (pc := 6) dX11_digest_6 rfl ?_
      refine r_bipush (pc := 7) dX11_digest_7 (by decide) ?_
      refine r_icmp_gt (pc := 9) 29 dX11_digest_9 (by decide) (by omega) (by omega) (fun h9 => ?_) (fun h9 => ?_)
      · skip
        refine r_aload_n (pc := 29) dX11_digest_29 rfl ?_
        refine r_getP (pc := 30) dX11_digest_30 frX11_40 (by assumption) (by assumption) ?_
        refine r_getP (pc := 33) dX11_digest_33 frX11_72 (by assumption) (by assumption) ?_
        refine r_lload_n (pc := 36) dX11_digest_36 rfl ?_
        refine i_V1lx (pc := 37) okX2_mixInto inX2_mixInto selX2_mixInto q1017 dX11_digest_37 (by assumption) rfl (by decide) (Nat.le_of_ble_eq_true rfl) (sX2_mixInto (Y := Y)) ?_
        refine r_lstore_n (pc := 40) dX11_digest_40 (by decide) ?_
        refine r_aload_n (pc := 41) dX11_digest_41 rfl ?_
        refine r_getP (pc := 42) dX11_digest_42 frX11_40 (by assumption) (by assumption) ?_
        refine r_getP (pc := 45) dX11_digest_45 frX11_191 (by assumption) (by assumption) ?_
        refine r_lload_n (pc := 48) dX11_digest_48 rfl ?_
        refine i_V1lx (pc := 49) okX0_mixInto inX0_mixInto selX0_mixInto q1022 dX11_digest_49 (by assumption) rfl (by decide) (Nat.le_of_ble_eq_true rfl) (sX0_mixInto) ?_
        refine r_lstore_n (pc := 52) dX11_digest_52 (by decide) ?_
        refine r_lload_n (pc := 53) dX11_digest_53 rfl ?_
        refine r_aload_n (pc := 54) dX11_digest_54 rfl ?_
        refine r_getL (pc := 55) dX11_digest_55 frX11_284 (by assumption) ?_
        refine i_S2lx (pc := 58) okX11_mix staX11_mix q1013 dX11_digest_58 (by decide) (Nat.le_of_ble_eq_true rfl) (sX11_mix) ?_
        refine r_aload_n (pc := 61) dX11_digest_61 rfl ?_
        refine r_getL (pc := 62) dX11_digest_62 frX11_60 (by assumption) ?_
        refine i_S2lx (pc := 65) okX11_mix staX11_mix q1013 dX11_digest_65 (by decide) (Nat.le_of_ble_eq_true rfl) (sX11_mix) ?_
        refine t_lret (pc := 68) dX11_digest_68 rfl ?_
        refine ⟨?_, rfl, h⟩
        rw [hk, show f = 14 by omega]; rfl
      · exfalso; omega
    | succ d ih =>
      intro f i k hd hi hk
      refine r_iload_n (pc := 6) dX11_digest_6 rfl ?_
      refine r_bipush (pc := 7) dX11_digest_7 (by decide) ?_
      refine r_icmp_gt (pc := 9) 29 dX11_digest_9 (by decide) (by omega) (by omega) (fun h9 => ?_) (fun h9 => ?_)
      · exfalso; omega
      · skip
        refine r_lload_n (pc := 12) dX11_digest_12 rfl ?_
        refine r_aload_n (pc := 13) dX11_digest_13 rfl ?_
        refine r_iload_n (pc := 14) dX11_digest_14 rfl ?_
        refine i_V1ix (pc := 15) okX11_tally inX11_tally selX11_tally q1004 dX11_digest_15 (by assumption) rfl (by decide) (Nat.le_of_ble_eq_true rfl) (sX11_tally) ?_
        refine r_i2lw (pc := 18) dX11_digest_18 ?_
        refine i_S2lx (pc := 19) okX11_mix staX11_mix q1013 dX11_digest_19 (by decide) (Nat.le_of_ble_eq_true rfl) (sX11_mix) ?_
        refine r_lstore_n (pc := 22) dX11_digest_22 (by decide) ?_
        refine r_iinc (pc := 23) dX11_digest_23 rfl ?_
        refine r_goto (pc := 26) 6 dX11_digest_26 (by decide) ?_
        refine ih (f + 1) _ _ (by omega) (by omega) ?_
        rw [talN, ← hk, hi]; rfl
  refine r_ldc2_w (v := (827 : Int)) (pc := 0) dX11_digest_0 kcX11_306 ?_
  refine r_lstore_n (pc := 3) dX11_digest_3 (by decide) ?_
  refine r_iconst (pc := 4) dX11_digest_4 ?_
  refine r_istore_n (pc := 5) dX11_digest_5 (by decide) ?_
  exact loop 14 0 _ _ (by omega) (by omega) rfl

