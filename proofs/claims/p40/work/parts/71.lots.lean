/-! lots, meet, digest -/
def lcg (x : Int) : Nat → Int
  | 0 => x
  | n + 1 => (lcg x n * 1103515245 + 12345) % 2147483648
theorem lcg_in {x : Int} (h : 0 ≤ x ∧ x < 2147483648) : ∀ n, 0 ≤ lcg x n ∧ lcg x n < 2147483648 := by
  intro n
  induction n with
  | zero => exact h
  | succ n ih => unfold lcg; omega
theorem und_in (s : Nat) : ∀ (m f : Nat) (h : Int), 0 ≤ undR s m f h ∧ undR s m f h ≤ f + m := by
  intro m
  induction m with
  | zero => intro f h; unfold undR; omega
  | succ m ih =>
    intro f h
    unfold undR
    have h1 := ih (f + 1) h
    have h2 := ih (f + 1) (h - 1)
    split
    · omega
    · split <;> omega
def lotF (x : Int) (z : Nat) : Nat → Nat
  | 0 => 0
  | n + 1 => lotF x z n ||| 2 ^ (undR (lotF x z n) z 0 ((lcg x (n + 1) / 65536) % ((z : Int) - n))).toNat
theorem lotF_in (x : Int) {z : Nat} (hz : z ≤ 6) : ∀ n, lotF x z n < 2 ^ 7 := by
  intro n
  induction n with
  | zero => show 0 < 2 ^ 7; decide
  | succ n ih =>
    unfold lotF
    have h := und_in (lotF x z n) z 0 ((lcg x (n + 1) / 65536) % ((z : Int) - n))
    exact Nat.or_lt_two_pow ih (Nat.pow_lt_pow_right (by decide) (by omega))
def lotsS (S : YS) (x k : Int) : Int × YS := if (0 ≤ x ∧ x ≤ 999999) ∧ (0 ≤ k ∧ k ≤ S.1.1 6) then ((lotF x (sizeF S.1.1) k.toNat : Int), S) else (-2, yB S)
theorem sX11_lots {G : WG} {C : CF} {I : MI} {P : MP} {L : ML} {Y x k : Int} (h : YI G C I P Y := by assumption) (hx' : iR x := by omega) (hk' : iR k := by omega) : SX11_lots G [.ref (gB G), .int (zI x), .int (zI k)] C I P L (NI C (QY G (lotsS (rdY G I L) x k).1 (lotsS (rdY G I L) x k).2 Y C)) := by
  have hyl := h.1
  obtain ⟨hK, hK4, hP0, hP1, hP2, hP3, hP4, hP5, hP6, hr, hl, hl2, hl3, hl4, htr, hKd⟩ := id hyl
  have hKl := hl.2.1
  have hKt := htr.2.1
  have hPb : P (gB G + 11) 1 = some (gB G + 12) := hl.2.2.2.2.1
  have hb : BooksL G C P (gB G + 12) := hl.2.2.2.2.2.2.1
  have hKb := hb.2.1
  have hBI : BI (rdB I (gB G + 12)) := h.2.1.1.2.1
  have hPf : P (gB G + 11) 0 = some (gB G + 21) := hl.2.2.2.1
  have hf : FarmL G C P (gB G + 21) := hl.2.2.2.2.2.2.2.1
  have hKf := hf.2.1
  have hF : FI (rdF I (gB G + 21)) Y := h.2.1.1.1
  have hW : WayL C P (gB G + 21) (rdF I (gB G + 21)) := h.2.2.1.1.1
  have hs6 := hF.2.2.2.2.2.2.1
  have e10 : I (gB G + 21) 10 = rdF I (gB G + 21) 6 := at_10 I (gB G + 21)
  have eS : (rdY G I L).1.1 6 = rdF I (gB G + 21) 6 := rfl
  have hw4 := hBI.2.2.2.1
  have e3 : I (gB G + 12) 3 = ((rdB I (gB G + 12) 90).toNat : Int) := by rw [ab_3 I (gB G + 12)]; omega
  have e3' : I (gB G + 12) 3 = rdB I (gB G + 12) 90 := ab_3 I (gB G + 12)
  have eS3 : (rdY G I L).1.2.1 90 = rdB I (gB G + 12) 90 := rfl
  obtain ⟨hz6, hsz⟩ := sizeF_le hF
  have ez : I (gB G + 21) 10 = (sizeF (rdF I (gB G + 21)) : Int) := by omega
  have eF : (rdY G I L).1.1 = rdF I (gB G + 21) := rfl
  generalize hzz : sizeF (rdF I (gB G + 21)) = z at hz6 hsz ez
  refine en_I (by decide +kernel) (Nat.le_of_ble_eq_true rfl) ?_
  change Wd _ _ _ _ _ _ _ _ 0 [some _, some _, some _, none, none, none, none, none, none] [] _ _ _ _
  have loop : (0 ≤ x ∧ x ≤ 999999) ∧ (0 ≤ k ∧ k ≤ (rdY G I L).1.1 6) → ∀ (d f : Nat) (i q : Int) (w : Option Value), f + d = k.toNat → i = (f : Int) → q = (lotF x z f : Int) → Wd G yX11_lots cX11_lots 9 (some .int) 1 (C.2.1 + 0, C.2.2 + 0) (NI C (QY G (lotsS (rdY G I L) x k).1 (lotsS (rdY G I L) x k).2 Y C)) 47 [some (.ref (gB G)), some (.int (zI x)), some (.int (zI k)), some (.int (zI (z : Int))), some (.long (zL (lcg x f))), none, some (.int (zI q)), some (.int (zI i)), w] [] C I P L := by
    intro hz d
    have hlc := lcg_in (x := x) (by omega)
    induction d with
    | zero =>
      intro f i q w hd hi hq
      refine r_iload (pc := 47) dX11_lots_47 rfl ?_
      refine r_iload_n (pc := 49) dX11_lots_49 rfl ?_
      refine r_icmp_ge (pc := 50) 106 dX11_lots_50 (by decide) (by omega) (by omega) (fun h50 => ?_) (fun h50 => ?_)
      · skip
        refine r_iload (pc := 106) dX11_lots_106 rfl ?_
        refine t_iret (pc := 108) dX11_lots_108 rfl rfl ?_
        unfold lotsS
        rw [if_pos hz, eF, hzz, hq, show f = k.toNat by omega]
        exact QY_same h
      · exfalso; omega
    | succ d ih =>
      intro f i q w hd hi hq
      have l0 := hlc f
      have l1 := hlc (f + 1)
      have hlt := lotF_in x hz6 f
      have hu := und_in (lotF x z f) z 0 ((lcg x (f + 1) / 65536) % ((z : Int) - f))
      have hm0 := Int.emod_nonneg (lcg x (f + 1) / 65536) (show (z : Int) - f ≠ 0 by omega)
      have hm1 := Int.emod_lt_of_pos (lcg x (f + 1) / 65536) (show 0 < (z : Int) - f by omega)
      have ex : lcg x (f + 1) = (lcg x f * 1103515245 + 12345) % 2147483648 := rfl
      have eu : undR (lotF x z f) z 0 ((lcg x (f + 1) / 65536) % ((z : Int) - f)) = ((undR (lotF x z f) z 0 ((lcg x (f + 1) / 65536) % ((z : Int) - f))).toNat : Int) := by omega
      refine r_iload (pc := 47) dX11_lots_47 rfl ?_
      refine r_iload_n (pc := 49) dX11_lots_49 rfl ?_
      refine r_icmp_ge (pc := 50) 106 dX11_lots_50 (by decide) (by omega) (by omega) (fun h50 => ?_) (fun h50 => ?_)
      · exfalso; omega
      · skip
        refine r_lload (pc := 53) dX11_lots_53 rfl ?_
        refine r_ldc2_w (v := (1103515245 : Int)) (pc := 55) dX11_lots_55 kcX11_236 ?_
        refine r_lmul (pc := 58) dX11_lots_58 ?_
        refine r_ldc2_w (v := (12345 : Int)) (pc := 59) dX11_lots_59 kcX11_238 ?_
        refine r_ladd (pc := 62) dX11_lots_62 ?_
        refine r_ldc2_w (v := (2147483648 : Int)) (pc := 63) dX11_lots_63 kcX11_240 ?_
        refine r_lrem (pc := 66) dX11_lots_66 (by omega) (by omega) (by omega) (by omega) ?_
        rw [← ex]
        refine r_lstore (pc := 67) dX11_lots_67 (by decide) ?_
        refine r_lload (pc := 69) dX11_lots_69 rfl ?_
        refine r_ldc2_w (v := (65536 : Int)) (pc := 71) dX11_lots_71 kcX11_242 ?_
        refine r_ldiv (pc := 74) dX11_lots_74 (by omega) (by omega) (by omega) (by omega) ?_
        refine r_l2i (pc := 75) dX11_lots_75 ?_
        refine r_iload_n (pc := 76) dX11_lots_76 rfl ?_
        refine r_iload (pc := 77) dX11_lots_77 rfl ?_
        refine r_isub (pc := 79) dX11_lots_79 ?_
        refine i_S2ix (pc := 80) okX11_leftOver staX11_leftOver q659 dX11_lots_80 (by decide) (Nat.le_of_ble_eq_true rfl) (sX11_leftOver) ?_
        refine r_istore (pc := 83) dX11_lots_83 (by decide) ?_
        rw [hi]
        refine r_iload (pc := 85) dX11_lots_85 rfl ?_
        refine r_iconst (pc := 87) dX11_lots_87 ?_
        refine r_iload (pc := 88) dX11_lots_88 rfl ?_
        refine r_iload (pc := 90) dX11_lots_90 rfl ?_
        refine r_iload_n (pc := 92) dX11_lots_92 rfl ?_
        refine i_S3ix (pc := 93) okX11_undrawn staX11_undrawn q660 dX11_lots_93 (by decide) (Nat.le_of_ble_eq_true rfl) (sX11_undrawn (s := lotF x z f) (z := z)) ?_
        refine r_ishl (pc := 96) dX11_lots_96 ?_
        refine r_ior (pc := 97) dX11_lots_97 ?_
        refine r_istore (pc := 98) dX11_lots_98 (by decide) ?_
        refine r_iinc (pc := 100) dX11_lots_100 rfl ?_
        refine r_goto (pc := 103) 47 dX11_lots_103 (by decide) ?_
        rw [eu, b_shl1 (by omega), hq, b_orN (k := 7) hlt (Nat.pow_lt_pow_right (by decide) (by omega)) (by decide)]
        exact ih (f + 1) _ _ _ (by omega) (by omega) rfl
  refine r_aload_n (pc := 0) dX11_lots_0 rfl ?_
  refine r_getP (pc := 1) dX11_lots_1 frX11_40 (by assumption) (by assumption) ?_
  refine r_getP (pc := 4) dX11_lots_4 frX11_72 (by assumption) (by assumption) ?_
  refine r_getI (pc := 7) dX11_lots_7 frX11_93 (by assumption) ?_
  refine r_istore_n (pc := 10) dX11_lots_10 (by decide) ?_
  rw [ez]
  refine r_iload_n (pc := 11) dX11_lots_11 rfl ?_
  refine r_iconst (pc := 12) dX11_lots_12 ?_
  refine r_ldc (v := (999999 : Int)) (pc := 13) dX11_lots_13 kcX11_235 ?_
  refine i_S3ix (pc := 15) okX11_within staX11_within q317 dX11_lots_15 (by decide) (Nat.le_of_ble_eq_true rfl) (sX11_within) ?_
  refine r_if_eq (pc := 18) 30 dX11_lots_18 (by decide) (by first | omega | (split <;> decide)) (fun h18 => ?_) (fun h18 => ?_)
  · skip
    refine r_aload_n (pc := 30) dX11_lots_30 rfl ?_
    refine r_bipush (pc := 31) dX11_lots_31 (by decide) ?_
    refine i_V1ix (pc := 33) okX11_refuseBad inX11_refuseBad selX11_refuseBad q320 dX11_lots_33 (by assumption) rfl (by decide) (Nat.le_of_ble_eq_true rfl) (sX11_refuseBad) ?_
    refine t_iret (pc := 36) dX11_lots_36 rfl rfl ?_
    have hz : ¬ ((0 ≤ x ∧ x ≤ 999999) ∧ (0 ≤ k ∧ k ≤ (rdY G I L).1.1 6)) := by
      first
      | exact fun hz => (wf h18) hz.1
      | exact fun hz => (wf h27) (by omega)
    unfold lotsS
    rw [if_neg hz]
    exact QY_bad h
  · skip
    refine r_iload_n (pc := 21) dX11_lots_21 rfl ?_
    refine r_iconst (pc := 22) dX11_lots_22 ?_
    refine r_iload_n (pc := 23) dX11_lots_23 rfl ?_
    refine i_S3ix (pc := 24) okX11_within staX11_within q317 dX11_lots_24 (by decide) (Nat.le_of_ble_eq_true rfl) (sX11_within) ?_
    refine r_if_ne (pc := 27) 37 dX11_lots_27 (by decide) (by first | omega | (split <;> decide)) (fun h27 => ?_) (fun h27 => ?_)
    · skip
      have h1 := wt h18
      have h2 := wt h27
      refine r_iload_n (pc := 37) dX11_lots_37 rfl ?_
      refine r_i2l (pc := 38) dX11_lots_38 (by first | omega | (split <;> decide)) ?_
      refine r_lstore (pc := 39) dX11_lots_39 (by decide) ?_
      refine r_iconst (pc := 41) dX11_lots_41 ?_
      refine r_istore (pc := 42) dX11_lots_42 (by decide) ?_
      refine r_iconst (pc := 44) dX11_lots_44 ?_
      refine r_istore (pc := 45) dX11_lots_45 (by decide) ?_
      exact loop ⟨h1, by omega⟩ k.toNat 0 _ _ _ (by omega) (by omega) rfl
    · skip
      refine r_aload_n (pc := 30) dX11_lots_30 rfl ?_
      refine r_bipush (pc := 31) dX11_lots_31 (by decide) ?_
      refine i_V1ix (pc := 33) okX11_refuseBad inX11_refuseBad selX11_refuseBad q320 dX11_lots_33 (by assumption) rfl (by decide) (Nat.le_of_ble_eq_true rfl) (sX11_refuseBad) ?_
      refine t_iret (pc := 36) dX11_lots_36 rfl rfl ?_
      have hz : ¬ ((0 ≤ x ∧ x ≤ 999999) ∧ (0 ≤ k ∧ k ≤ (rdY G I L).1.1 6)) := by
        first
        | exact fun hz => (wf h18) hz.1
        | exact fun hz => (wf h27) (by omega)
      unfold lotsS
      rw [if_neg hz]
      exact QY_bad h
def meetF (s a z : Int) : Nat → Int → Int
  | 0, _ => -1
  | d + 1, t => if t < s * z then (if t % s = a then t else meetF s a z d (t + z)) else -1
def meetS (S : YS) (z r : Int) : Int × YS := if (2 ≤ z ∧ z ≤ 70) ∧ (0 ≤ r ∧ r ≤ z - 1) then (meetF (S.1.1 0) (awayF S.1.1) z 100 r, S) else (-2, yB S)
def w32 (x : Int) : Int := (zI x).toInt
def talN (F B : Nat → Int) (u n h : Int) : Nat → Int
  | 0 => h
  | k + 1 => 31 * talN F B u n h k + w32 (tallyS F B u n (k : Int))
def digS (S : YS) : Int := 31 * (31 * mixB S.1.2.1 (mixF S.1.1 (talN S.1.1 S.1.2.1 S.1.2.2.2.1 S.2.2.2.2.1 827 14) (sizeF S.1.1)) + S.2.2.2.2.2.2.2.2.2.1) + S.2.2.2.2.2.2.2.2.2.2

