/-! the reference: lots, liars -/
def unc (s : Nat) : Nat → Nat → Nat
  | 0, _ => 0
  | m + 1, f => (if s.testBit f = true then 0 else 1) + unc s m (f + 1)
theorem unc_st (s m f : Nat) : unc s (m + 1) f = (if s.testBit f = true then 0 else 1) + unc s m (f + 1) := rfl
theorem und_st (s m f : Nat) (h : Int) : undR s (m + 1) f h = if s.testBit f = true then undR s m (f + 1) h else if h = 0 then (f : Int) else undR s m (f + 1) (h - 1) := rfl
theorem bit_or (s r f : Nat) : (s ||| 2 ^ r).testBit f = (s.testBit f || decide (r = f)) := by
  rw [Nat.testBit_or, Nat.testBit_two_pow]
theorem unc_hi (s r : Nat) : ∀ m f, r < f → unc (s ||| 2 ^ r) m f = unc s m f := by
  intro m
  induction m with
  | zero => intro f _; rfl
  | succ m ih =>
    intro f hf
    rw [unc_st, unc_st, ih (f + 1) (by omega), bit_or, decide_eq_false (show ¬ r = f by omega), Bool.or_false]
theorem unc_or (s : Nat) : ∀ (m f : Nat) (h : Int), 0 ≤ h → h < unc s m f → f ≤ (undR s m f h).toNat ∧ 0 ≤ undR s m f h ∧ unc (s ||| 2 ^ (undR s m f h).toNat) m f + 1 = unc s m f := by
  intro m
  induction m with
  | zero => intro f h h0 h1; exfalso; have : unc s 0 f = 0 := rfl; omega
  | succ m ih =>
    intro f h h0 h1
    rw [unc_st] at h1
    rw [und_st, unc_st, unc_st, bit_or]
    by_cases hb : s.testBit f = true
    · rw [if_pos hb] at h1
      rw [if_pos hb, if_pos hb]
      obtain ⟨a, b, c⟩ := ih (f + 1) h h0 (by omega)
      rw [hb, Bool.true_or, if_pos rfl]
      exact ⟨by omega, b, by omega⟩
    · rw [if_neg hb] at h1
      rw [if_neg hb, if_neg hb]
      have hbf : s.testBit f = false := by simpa using hb
      rw [hbf, Bool.false_or]
      by_cases h00 : h = 0
      · rw [if_pos h00, Int.toNat_natCast, if_pos (decide_eq_true rfl), unc_hi s f m (f + 1) (by omega)]
        exact ⟨Nat.le_refl f, by omega, by omega⟩
      · rw [if_neg h00]
        obtain ⟨a, b, c⟩ := ih (f + 1) (h - 1) (by omega) (by omega)
        rw [if_neg (by rw [decide_eq_true_eq]; omega)]
        exact ⟨by omega, b, by omega⟩
theorem lot_st (x : Int) (z n : Nat) : lotF x z (n + 1) = lotF x z n ||| 2 ^ (undR (lotF x z n) z 0 ((lcg x (n + 1) / 65536) % ((z : Int) - n))).toNat := rfl
theorem unc_0 : ∀ m f, unc 0 m f = m := by
  intro m
  induction m with
  | zero => intro f; rfl
  | succ m ih => intro f; rw [unc_st, ih, Nat.zero_testBit, if_neg (by decide)]; omega
theorem lot_unc {x : Int} (hx : 0 ≤ x ∧ x < 2147483648) (z : Nat) : ∀ n, n ≤ z → unc (lotF x z n) z 0 + n = z := by
  intro n
  induction n with
  | zero => intro _; show unc 0 z 0 + 0 = z; rw [unc_0]; omega
  | succ n ih =>
    intro hn
    have h := ih (by omega)
    have l1 := lcg_in hx (n + 1)
    have m0 := Int.emod_nonneg (lcg x (n + 1) / 65536) (show (z : Int) - n ≠ 0 by omega)
    have m1 := Int.emod_lt_of_pos (lcg x (n + 1) / 65536) (show 0 < (z : Int) - n by omega)
    have q := unc_or (lotF x z n) z 0 _ m0 (by omega)
    rw [lot_st]
    omega
def alR (B : Nat → Int) (s n : Nat) : Nat → Bool
  | 0 => true
  | k + 1 => alR B s n k && !(badB B s (k / n) (k % n))
theorem al_st (B : Nat → Int) (s n k : Nat) : alR B s n (k + 1) = (alR B s n k && !(badB B s (k / n) (k % n))) := rfl
theorem al_all (B : Nat → Int) (s n : Nat) : ∀ k, alR B s n k = true ↔ ∀ j, j < k → badB B s (j / n) (j % n) = false := by
  intro k
  induction k with
  | zero => exact ⟨fun _ j hj => absurd hj (by omega), fun _ => rfl⟩
  | succ k ih =>
    rw [al_st, Bool.and_eq_true, ih]
    constructor
    · intro h j hj
      by_cases hjk : j = k
      · rw [hjk]; simpa using h.2
      · exact h.1 j (by omega)
    · intro h
      exact ⟨fun j hj => h j (by omega), by rw [h k (by omega)]; rfl⟩
theorem bad_sym (B : Nat → Int) (s r q : Nat) : badB B s r q = badB B s q r := by
  unfold badB
  rw [Bool.and_comm (toldB B r s)]
  congr 1
  unfold diffB
  congr 1
  apply propext
  constructor
  · intro h; exact ⟨h.1.symm, fun e => h.2 e.symm⟩
  · intro h; exact ⟨h.1.symm, fun e => h.2 e.symm⟩
theorem bad_rr (B : Nat → Int) (s r : Nat) : badB B s r r = false := by
  have : diffB B r r = false := by unfold diffB; exact decide_eq_false (fun h => h.2 rfl)
  unfold badB; rw [this, Bool.and_false]
theorem al_alike (B : Nat → Int) (s n : Nat) : alR B s n (n * n) = alikeB B s n := by
  have e : alR B s n (n * n) = true ↔ alikeB B s n = true := by
    rw [al_all]
    unfold alikeB
    rw [decide_eq_true_eq]
    constructor
    · intro h r hr q hq
      have hn0 : 0 < n := by omega
      have hlt : n * r + q < n * n := by
        have h1 : n * (r + 1) ≤ n * n := Nat.mul_le_mul_left n (by omega)
        rw [Nat.mul_add, Nat.mul_one] at h1
        omega
      have q1 := h (n * r + q) hlt
      rw [Nat.mul_add_div hn0, Nat.mul_add_mod, Nat.div_eq_of_lt (by omega), Nat.mod_eq_of_lt (by omega), Nat.add_zero] at q1
      exact q1
    · intro h j hj
      have hn0 : 0 < n := by
        rcases Nat.eq_zero_or_pos n with h0 | h0
        · rw [h0] at hj; omega
        · exact h0
      have h1 : j / n < n := Nat.div_lt_of_lt_mul hj
      have h2 : j % n < n := Nat.mod_lt _ hn0
      rcases Nat.lt_trichotomy (j % n) (j / n) with h3 | h3 | h3
      · exact h _ h1 _ h3
      · rw [h3]; exact bad_rr B s _
      · rw [bad_sym]; exact h _ h2 _ h3
  rcases hb : alikeB B s n with _ | _
  · rcases ha : alR B s n (n * n) with _ | _
    · rfl
    · rw [e.mp ha] at hb; cases hb
  · rw [e.mpr hb]
def fewM (B : Nat → Int) (n : Nat) : Nat → Int
  | 0 => -1
  | s + 1 => if alikeB B s n = true ∧ (fewM B n s = -1 ∨ pop s < pop (fewM B n s).toNat) then (s : Int) else fewM B n s
theorem fewM_in (B : Nat → Int) (n : Nat) : ∀ s : Nat, -1 ≤ fewM B n s ∧ fewM B n s < s := by
  intro s
  induction s with
  | zero => show (-1 : Int) ≤ -1 ∧ (-1 : Int) < 0; omega
  | succ s ih => unfold fewM; split <;> omega
theorem few_st (B : Nat → Int) (n s : Nat) : fewM B n (s + 1) = if alikeB B s n = true ∧ (fewM B n s = -1 ∨ pop s < pop (fewM B n s).toNat) then (s : Int) else fewM B n s := rfl
theorem sure_st (B : Nat → Int) (n all s : Nat) : sureL B n all (s + 1) = if alikeB B s n = true then sureL B n all s &&& s else sureL B n all s := rfl
theorem and_m1 : ∀ x : Fin 64, b_and (x.val : Int) (-1) = (x.val : Int) := by decide +kernel
section REF10
variable {G : WG} {C : CF} {I : MI} {P : MP} {L : ML} {m : Nat} {Y : Int}
theorem sX12_place {s z : Nat} {x y : Int} (hx : x = (s : Int) := by first | rfl | omega) (hs : s < 2147483648 := by omega) (hz : z ≤ 6 := by omega) (hy : 0 ≤ y ∧ y < unc s z 0 := by omega) : SX12_place G [.int (zI x), .int (zI y)] C I P L (NI C (XI (undR s z 0 y) I P L)) := by
  have uu : ∀ n f, unc s n f ≤ n := by
    intro n
    induction n with
    | zero => intro f; exact Nat.le_refl 0
    | succ n ih => intro f; rw [unc_st]; have := ih (f + 1); split <;> omega
  have hyz := uu z 0
  refine en_I (by decide +kernel) (Nat.le_of_ble_eq_true rfl) ?_
  change Wd _ _ _ _ _ _ _ _ 0 [some _, some _, none, none] [] _ _ _ _
  have loop : ∀ (n f : Nat) (i h : Int), f + n = z → i = (f : Int) → 0 ≤ h → h < unc s n f → undR s z 0 y = undR s n f h → Wd G yX12_place cX12_place 4 (some .int) 0 (C.2.1 + 0, C.2.2 + 0) (NI C (XI (undR s z 0 y) I P L)) 4 [some (.int (zI x)), some (.int (zI y)), some (.int (zI h)), some (.int (zI i))] [] C I P L := by
    intro n
    induction n with
    | zero => intro f i h hn hi h0 h1 he; exfalso; have : unc s 0 f = 0 := rfl; omega
    | succ n ih =>
      intro f i h hn hi h0 h1 he
      have hu := uu (n + 1) f
      have hu2 := uu n (f + 1)
      have hbit := b_bit (s := s) (f := f) hs (by omega)
      rw [← hx, ← hi] at hbit
      rw [unc_st] at h1
      rw [und_st] at he
      by_cases hb : s.testBit f = true
      · rw [if_pos hb] at h1 he hbit
        refine r_iload_n (pc := 4) dX12_place_4 rfl ?_
        refine r_iload_n (pc := 5) dX12_place_5 rfl ?_
        refine r_ishr (pc := 6) dX12_place_6 ?_
        refine r_iconst (pc := 7) dX12_place_7 ?_
        refine r_iand (pc := 8) dX12_place_8 ?_
        rw [hbit]
        refine r_iconst (pc := 9) dX12_place_9 ?_
        refine r_icmp_eq (pc := 10) 17 dX12_place_10 (by decide) (by omega) (by omega) (fun h10 => ?_) (fun h10 => ?_)
        · skip
          refine r_iload_n (pc := 17) dX12_place_17 rfl ?_
          refine r_iload_n (pc := 18) dX12_place_18 rfl ?_
          refine r_iload_n (pc := 19) dX12_place_19 rfl ?_
          refine r_ishr (pc := 20) dX12_place_20 ?_
          refine r_iconst (pc := 21) dX12_place_21 ?_
          refine r_iand (pc := 22) dX12_place_22 ?_
          rw [hbit]
          refine r_if_ne (pc := 23) 30 dX12_place_23 (by decide) (by omega) (fun h23 => ?_) (fun h23 => ?_)
          · skip
            refine r_iconst (pc := 30) dX12_place_30 ?_
            refine r_isub (pc := 31) dX12_place_31 ?_
            refine r_istore_n (pc := 32) dX12_place_32 (by decide) ?_
            refine r_iinc (pc := 33) dX12_place_33 rfl ?_
            refine r_goto (pc := 36) 4 dX12_place_36 (by decide) ?_
            exact ih (f + 1) _ _ (by omega) (by omega) (by omega) (by omega) (by rw [he]; congr 1; omega)
          · exact absurd h23 (by decide)
        · exact absurd rfl h10
      · rw [if_neg hb] at h1 he hbit
        refine r_iload_n (pc := 4) dX12_place_4 rfl ?_
        refine r_iload_n (pc := 5) dX12_place_5 rfl ?_
        refine r_ishr (pc := 6) dX12_place_6 ?_
        refine r_iconst (pc := 7) dX12_place_7 ?_
        refine r_iand (pc := 8) dX12_place_8 ?_
        rw [hbit]
        refine r_iconst (pc := 9) dX12_place_9 ?_
        refine r_icmp_eq (pc := 10) 17 dX12_place_10 (by decide) (by omega) (by omega) (fun h10 => ?_) (fun h10 => ?_)
        · exact absurd h10 (by decide)
        · skip
          refine r_iload_n (pc := 13) dX12_place_13 rfl ?_
          refine r_if_le (pc := 14) 39 dX12_place_14 (by decide) (by omega) (fun h14 => ?_) (fun h14 => ?_)
          · skip
            refine r_iload_n (pc := 39) dX12_place_39 rfl ?_
            refine t_iret (pc := 40) dX12_place_40 rfl rfl ?_
            rw [if_pos (by omega)] at he
            exact ⟨by rw [he]; exact hi, rfl, rfl, rfl⟩
          · skip
            refine r_iload_n (pc := 17) dX12_place_17 rfl ?_
            refine r_iload_n (pc := 18) dX12_place_18 rfl ?_
            refine r_iload_n (pc := 19) dX12_place_19 rfl ?_
            refine r_ishr (pc := 20) dX12_place_20 ?_
            refine r_iconst (pc := 21) dX12_place_21 ?_
            refine r_iand (pc := 22) dX12_place_22 ?_
            rw [hbit]
            refine r_if_ne (pc := 23) 30 dX12_place_23 (by decide) (by omega) (fun h23 => ?_) (fun h23 => ?_)
            · exact absurd rfl h23
            · skip
              refine r_iconst (pc := 26) dX12_place_26 ?_
              refine r_goto (pc := 27) 31 dX12_place_27 (by decide) ?_
              refine r_isub (pc := 31) dX12_place_31 ?_
              refine r_istore_n (pc := 32) dX12_place_32 (by decide) ?_
              refine r_iinc (pc := 33) dX12_place_33 rfl ?_
              refine r_goto (pc := 36) 4 dX12_place_36 (by decide) ?_
              rw [if_neg (by omega)] at he
              exact ih (f + 1) _ _ (by omega) (by omega) (by omega) (by omega) he
  refine r_iload_n (pc := 0) dX12_place_0 rfl ?_
  refine r_istore_n (pc := 1) dX12_place_1 (by decide) ?_
  refine r_iconst (pc := 2) dX12_place_2 ?_
  refine r_istore_n (pc := 3) dX12_place_3 (by decide) ?_
  exact loop z 0 _ _ (by omega) rfl hy.1 hy.2 rfl
def lotsM (T : RS) (x k : Int) : Int × RS := if (0 ≤ x ∧ x ≤ 999999) ∧ (0 ≤ k ∧ k ≤ T.1 6) then ((lotF x (sizeF T.1) k.toNat : Int), T) else (-2, zB T)
theorem sX12_lots {x k : Int} (hm : RfL G C P m := by assumption) (hF : FI (I (m + 1)) Y := by assumption) (hx' : iR x := by omega) (hk' : iR k := by omega) : SX12_lots G [.ref m, .int (zI x), .int (zI k)] C I P L (NI C (QZ m (lotsM (rdM m I L) x k).1 (lotsM (rdM m I L) x k).2 P)) := by
  obtain ⟨hBm, hKm, hK1, hK2, hK3, hK4, hK5, hK6, hK7, hK8, hK9, hK10, hK11, hP0, hP1, hP2, hP3, hP6, hP7, hP8, hP9, hP10, hP16, hP17⟩ := id hm
  obtain ⟨hz6, hsz⟩ := sizeF_le hF
  have ez : I (m + 1) 6 = (sizeF (I (m + 1)) : Int) := hsz.symm
  refine en_I (by decide +kernel) (Nat.le_of_ble_eq_true rfl) ?_
  change Wd _ _ _ _ _ _ _ _ 0 [some _, some _, some _, none, none, none, none] [] _ _ _ _
  have loop : (0 ≤ x ∧ x ≤ 999999) ∧ (0 ≤ k ∧ k ≤ I (m + 1) 6) → ∀ (d f : Nat) (i q : Int), f + d = k.toNat → i = (f : Int) → q = (lotF x (sizeF (I (m + 1))) f : Int) → Wd G yX12_lots cX12_lots 7 (some .int) 1 (C.2.1 + 0, C.2.2 + 0) (NI C (QZ m (lotsM (rdM m I L) x k).1 (lotsM (rdM m I L) x k).2 P)) 42 [some (.ref m), some (.int (zI x)), some (.int (zI k)), some (.long (zL (lcg x f))), none, some (.int (zI q)), some (.int (zI i))] [] C I P L := by
    intro hz d
    have hlc := lcg_in (x := x) (by omega)
    generalize hzz : sizeF (I (m + 1)) = z at hz6 hsz ez
    induction d with
    | zero =>
      intro f i q hd hi hq
      refine r_iload (pc := 42) dX12_lots_42 rfl ?_
      refine r_iload_n (pc := 44) dX12_lots_44 rfl ?_
      refine r_icmp_ge (pc := 45) 95 dX12_lots_45 (by decide) (by omega) (by omega) (fun h45 => ?_) (fun h45 => ?_)
      · skip
        refine r_iload (pc := 95) dX12_lots_95 rfl ?_
        refine t_iret (pc := 97) dX12_lots_97 rfl rfl ?_
        unfold lotsM
        rw [rdM_1, if_pos hz, hzz, hq, show f = k.toNat by omega]
        exact ⟨rfl, rfl, rfl⟩
      · exfalso; omega
    | succ d ih =>
      intro f i q hd hi hq
      have l0 := hlc f
      have l1 := hlc (f + 1)
      have hlt := lotF_in x hz6 f
      have hu := und_in (lotF x z f) z 0 ((lcg x (f + 1) / 65536) % ((z : Int) - f))
      have hm0 := Int.emod_nonneg (lcg x (f + 1) / 65536) (show (z : Int) - f ≠ 0 by omega)
      have hm1 := Int.emod_lt_of_pos (lcg x (f + 1) / 65536) (show 0 < (z : Int) - f by omega)
      have hun := lot_unc (x := x) (by omega) z f (by omega)
      have ex : lcg x (f + 1) = (lcg x f * 1103515245 + 12345) % 2147483648 := rfl
      have eu : undR (lotF x z f) z 0 ((lcg x (f + 1) / 65536) % ((z : Int) - f)) = ((undR (lotF x z f) z 0 ((lcg x (f + 1) / 65536) % ((z : Int) - f))).toNat : Int) := by omega
      refine r_iload (pc := 42) dX12_lots_42 rfl ?_
      refine r_iload_n (pc := 44) dX12_lots_44 rfl ?_
      refine r_icmp_ge (pc := 45) 95 dX12_lots_45 (by decide) (by omega) (by omega) (fun h45 => ?_) (fun h45 => ?_)
      · exfalso; omega
      · skip
        refine r_lload_n (pc := 48) dX12_lots_48 rfl ?_
        refine r_ldc2_w (v := (1103515245 : Int)) (pc := 49) dX12_lots_49 kcX12_211 ?_
        refine r_lmul (pc := 52) dX12_lots_52 ?_
        refine r_ldc2_w (v := (12345 : Int)) (pc := 53) dX12_lots_53 kcX12_213 ?_
        refine r_ladd (pc := 56) dX12_lots_56 ?_
        refine r_ldc2_w (v := (2147483648 : Int)) (pc := 57) dX12_lots_57 kcX12_215 ?_
        refine r_lrem (pc := 60) dX12_lots_60 (by omega) (by omega) (by omega) (by omega) ?_
        rw [← ex]
        refine r_lstore_n (pc := 61) dX12_lots_61 (by decide) ?_
        refine r_iload (pc := 62) dX12_lots_62 rfl ?_
        refine r_iconst (pc := 64) dX12_lots_64 ?_
        refine r_iload (pc := 65) dX12_lots_65 rfl ?_
        refine r_lload_n (pc := 67) dX12_lots_67 rfl ?_
        refine r_ldc2_w (v := (65536 : Int)) (pc := 68) dX12_lots_68 kcX12_217 ?_
        refine r_ldiv (pc := 71) dX12_lots_71 (by omega) (by omega) (by omega) (by omega) ?_
        refine r_aload_n (pc := 72) dX12_lots_72 rfl ?_
        refine i_V0ix (pc := 73) okX12_families inX12_families selX12_families q1118 dX12_lots_73 (by assumption) rfl (by decide) (Nat.le_of_ble_eq_true rfl) (sX12_families) ?_
        rw [ez, hi]
        refine r_iload (pc := 76) dX12_lots_76 rfl ?_
        refine r_isub (pc := 78) dX12_lots_78 ?_
        refine r_i2l (pc := 79) dX12_lots_79 (by omega) ?_
        refine r_lrem (pc := 80) dX12_lots_80 (by omega) (by omega) (by omega) (by omega) ?_
        refine r_l2i (pc := 81) dX12_lots_81 ?_
        refine i_S2ix (pc := 82) okX12_place staX12_place q1341 dX12_lots_82 (by decide) (Nat.le_of_ble_eq_true rfl) (sX12_place (s := lotF x z f) (z := z)) ?_
        refine r_ishl (pc := 85) dX12_lots_85 ?_
        refine r_ior (pc := 86) dX12_lots_86 ?_
        refine r_istore (pc := 87) dX12_lots_87 (by decide) ?_
        refine r_iinc (pc := 89) dX12_lots_89 rfl ?_
        refine r_goto (pc := 92) 42 dX12_lots_92 (by decide) ?_
        rw [eu, b_shl1 (by omega), hq, b_orN (k := 7) hlt (Nat.pow_lt_pow_right (by decide) (by omega)) (by decide)]
        exact ih (f + 1) _ _ (by omega) (by omega) rfl
  refine r_iload_n (pc := 0) dX12_lots_0 rfl ?_
  refine r_i2l (pc := 1) dX12_lots_1 (by first | omega | (split <;> decide)) ?_
  refine r_lconst (v := 0) (pc := 2) dX12_lots_2 (by decide) ?_
  refine r_ldc2_w (v := (999999 : Int)) (pc := 3) dX12_lots_3 kcX12_209 ?_
  refine i_S3ix (pc := 6) okX12_in staX12_in q1098 dX12_lots_6 (by decide) (Nat.le_of_ble_eq_true rfl) (sX12_in) ?_
  refine r_if_eq (pc := 9) 26 dX12_lots_9 (by decide) (by first | omega | (split <;> decide)) (fun h9 => ?_) (fun h9 => ?_)
  · skip
    refine r_aload_n (pc := 26) dX12_lots_26 rfl ?_
    refine r_bipush (pc := 27) dX12_lots_27 (by decide) ?_
    refine i_V1ix (pc := 29) okX12_bad inX12_bad selX12_bad q1101 dX12_lots_29 (by assumption) rfl (by decide) (Nat.le_of_ble_eq_true rfl) (sX12_bad) ?_
    refine t_iret (pc := 32) dX12_lots_32 rfl rfl ?_
    unfold lotsM
    rw [rdM_1, if_neg (fun hz => by first | exact (wf h9) hz.1 | exact (wf h23) hz.2)]
    exact QZ_bad
  · skip
    refine r_iload_n (pc := 12) dX12_lots_12 rfl ?_
    refine r_i2l (pc := 13) dX12_lots_13 (by first | omega | (split <;> decide)) ?_
    refine r_lconst (v := 0) (pc := 14) dX12_lots_14 (by decide) ?_
    refine r_aload_n (pc := 15) dX12_lots_15 rfl ?_
    refine i_V0ix (pc := 16) okX12_families inX12_families selX12_families q1118 dX12_lots_16 (by assumption) rfl (by decide) (Nat.le_of_ble_eq_true rfl) (sX12_families) ?_
    refine r_i2l (pc := 19) dX12_lots_19 (by first | omega | (split <;> decide)) ?_
    refine i_S3ix (pc := 20) okX12_in staX12_in q1098 dX12_lots_20 (by decide) (Nat.le_of_ble_eq_true rfl) (sX12_in) ?_
    refine r_if_ne (pc := 23) 33 dX12_lots_23 (by decide) (by first | omega | (split <;> decide)) (fun h23 => ?_) (fun h23 => ?_)
    · skip
      have h1 := wt h9
      have h2 := wt h23
      refine r_iload_n (pc := 33) dX12_lots_33 rfl ?_
      refine r_i2l (pc := 34) dX12_lots_34 (by first | omega | (split <;> decide)) ?_
      refine r_lstore_n (pc := 35) dX12_lots_35 (by decide) ?_
      refine r_iconst (pc := 36) dX12_lots_36 ?_
      refine r_istore (pc := 37) dX12_lots_37 (by decide) ?_
      refine r_iconst (pc := 39) dX12_lots_39 ?_
      refine r_istore (pc := 40) dX12_lots_40 (by decide) ?_
      exact loop ⟨h1, h2⟩ k.toNat 0 _ _ (by omega) rfl rfl
    · skip
      refine r_aload_n (pc := 26) dX12_lots_26 rfl ?_
      refine r_bipush (pc := 27) dX12_lots_27 (by decide) ?_
      refine i_V1ix (pc := 29) okX12_bad inX12_bad selX12_bad q1101 dX12_lots_29 (by assumption) rfl (by decide) (Nat.le_of_ble_eq_true rfl) (sX12_bad) ?_
      refine t_iret (pc := 32) dX12_lots_32 rfl rfl ?_
      unfold lotsM
      rw [rdM_1, if_neg (fun hz => by first | exact (wf h9) hz.1 | exact (wf h23) hz.2)]
      exact QZ_bad
theorem sX12_areAlike {s n : Nat} {x : Int} (hm : RfL G C P m := by assumption) (hBI : BI (I (m + 1)) := by assumption) (hn : I (m + 1) 59 = (n : Int) := by assumption) (hx : x = (s : Int) := by first | rfl | omega) (hs : s < 2147483648 := by omega) : SX12_areAlike G [.ref m, .int (zI x)] C I P L (NI C (XI (if alikeB (I (m + 1)) s n = true then 1 else 0) I P L)) := by
  obtain ⟨hBm, hKm, hK1, hK2, hK3, hK4, hK5, hK6, hK7, hK8, hK9, hK10, hK11, hP0, hP1, hP2, hP3, hP6, hP7, hP8, hP9, hP10, hP16, hP17⟩ := id hm
  have b3 := hBI.2.2.1
  have nb : ∀ b : Bool, iR (if b = true then 1 else 0) := fun b => by cases b <;> decide
  have hnn : I (m + 1) 59 * I (m + 1) 59 = ((n * n : Nat) : Int) := by rw [hn, Int.natCast_mul]
  have hn2 : n * n ≤ 100 := Nat.mul_le_mul (show n ≤ 10 by omega) (show n ≤ 10 by omega)
  rw [← al_alike]
  refine en_I (by decide +kernel) (Nat.le_of_ble_eq_true rfl) ?_
  change Wd _ _ _ _ _ _ _ _ 0 [some _, some _, none, none, none, none, none] [] _ _ _ _
  have loop : ∀ (d o : Nat) (i a : Int) (w4 w5 w6 : Option Value), o + d = n * n → i = (o : Int) → a = (if alR (I (m + 1)) s n o = true then 1 else 0) → Wd G yX12_areAlike cX12_areAlike 7 (some .boolean) 0 (C.2.1 + 0, C.2.2 + 0) (NI C (XI (if alR (I (m + 1)) s n (n * n) = true then 1 else 0) I P L)) 4 [some (.ref m), some (.int (zI x)), some (.int (zI a)), some (.int (zI i)), w4, w5, w6] [] C I P L := by
    intro d
    induction d with
    | zero =>
      intro o i a w4 w5 w6 hd hi ha
      refine r_iload_n (pc := 4) dX12_areAlike_4 rfl ?_
      refine r_aload_n (pc := 5) dX12_areAlike_5 rfl ?_
      refine r_getA (pc := 6) dX12_areAlike_6 frX12_7 (by assumption) (by assumption) ?_
      refine r_bipush (pc := 9) dX12_areAlike_9 (by decide) ?_
      refine r_iald (j := 59) (pc := 11) dX12_areAlike_11 (by assumption) rfl (by omega) (by omega) ?_
      refine r_aload_n (pc := 12) dX12_areAlike_12 rfl ?_
      refine r_getA (pc := 13) dX12_areAlike_13 frX12_7 (by assumption) (by assumption) ?_
      refine r_bipush (pc := 16) dX12_areAlike_16 (by decide) ?_
      refine r_iald (j := 59) (pc := 18) dX12_areAlike_18 (by assumption) rfl (by omega) (by omega) ?_
      refine r_imul (pc := 19) dX12_areAlike_19 ?_
      rw [hnn]
      refine r_icmp_ge (pc := 20) 153 dX12_areAlike_20 (by decide) (by omega) (by omega) (fun h20 => ?_) (fun h20 => ?_)
      · skip
        refine r_iload_n (pc := 153) dX12_areAlike_153 rfl ?_
        refine t_iret (pc := 154) dX12_areAlike_154 rfl (nar_z (by rw [ha]; split <;> simp)) ?_
        exact ⟨by rw [ha, show o = n * n by omega], rfl, rfl, rfl⟩
      · exfalso; omega
    | succ d ih =>
      intro o i a w4 w5 w6 hd hi ha
      have hn0 : 0 < n := by
        rcases Nat.eq_zero_or_pos n with h0 | h0
        · rw [h0] at hd; omega
        · exact h0
      have hr : o / n < n := Nat.div_lt_of_lt_mul (by omega)
      have hq : o % n < n := Nat.mod_lt _ hn0
      have er : i / I (m + 1) 59 = ((o / n : Nat) : Int) := by rw [hi, hn, Int.natCast_ediv]
      have eq : i % I (m + 1) 59 = ((o % n : Nat) : Int) := by rw [hi, hn, Int.natCast_emod]
      have hst := al_st (I (m + 1)) s n o
      generalize hrr : o / n = r at hr er hst
      generalize hqq : o % n = q at hq eq hst
      obtain ⟨c1, c2, c3⟩ := hBI.2.2.2.2.2.1 r (by omega)
      obtain ⟨g1, g2, g3⟩ := hBI.2.2.2.2.2.1 q (by omega)
      have bit1 := b_bit (s := s) (f := (I (m + 1) (61 + 3 * r)).toNat) hs (by omega)
      have bit2 := b_bit (s := s) (f := (I (m + 1) (61 + 3 * q)).toNat) hs (by omega)
      rw [← hx, show (((I (m + 1) (61 + 3 * r)).toNat : Nat) : Int) = I (m + 1) (61 + 3 * r) by omega] at bit1
      rw [← hx, show (((I (m + 1) (61 + 3 * q)).toNat : Nat) : Int) = I (m + 1) (61 + 3 * q) by omega] at bit2
      unfold badB toldB diffB at hst
      generalize s.testBit (I (m + 1) (61 + 3 * r)).toNat = t1 at bit1 hst
      generalize s.testBit (I (m + 1) (61 + 3 * q)).toNat = t2 at bit2 hst
      generalize hdd : decide (I (m + 1) (60 + 3 * r) = I (m + 1) (60 + 3 * q) ∧ I (m + 1) (62 + 3 * r) ≠ I (m + 1) (62 + 3 * q)) = dd at hst
      generalize alR (I (m + 1)) s n o = A at ha hst
      have har := nb A
      refine r_iload_n (pc := 4) dX12_areAlike_4 rfl ?_
      refine r_aload_n (pc := 5) dX12_areAlike_5 rfl ?_
      refine r_getA (pc := 6) dX12_areAlike_6 frX12_7 (by assumption) (by assumption) ?_
      refine r_bipush (pc := 9) dX12_areAlike_9 (by decide) ?_
      refine r_iald (j := 59) (pc := 11) dX12_areAlike_11 (by assumption) rfl (by first | omega | exact nb _) (by omega) ?_
      refine r_aload_n (pc := 12) dX12_areAlike_12 rfl ?_
      refine r_getA (pc := 13) dX12_areAlike_13 frX12_7 (by assumption) (by assumption) ?_
      refine r_bipush (pc := 16) dX12_areAlike_16 (by decide) ?_
      refine r_iald (j := 59) (pc := 18) dX12_areAlike_18 (by assumption) rfl (by first | omega | exact nb _) (by omega) ?_
      refine r_imul (pc := 19) dX12_areAlike_19 ?_
      rw [hnn]
      refine r_icmp_ge (pc := 20) 153 dX12_areAlike_20 (by decide) (by first | omega | exact nb _) (by first | omega | exact nb _) (fun h20 => ?_) (fun h20 => ?_)
      · exfalso; omega
      · skip
        refine r_bipush (pc := 23) dX12_areAlike_23 (by decide) ?_
        refine r_iconst (pc := 25) dX12_areAlike_25 ?_
        refine r_iload_n (pc := 26) dX12_areAlike_26 rfl ?_
        refine r_aload_n (pc := 27) dX12_areAlike_27 rfl ?_
        refine r_getA (pc := 28) dX12_areAlike_28 frX12_7 (by assumption) (by assumption) ?_
        refine r_bipush (pc := 31) dX12_areAlike_31 (by decide) ?_
        refine r_iald (j := 59) (pc := 33) dX12_areAlike_33 (by assumption) rfl (by first | omega | exact nb _) (by omega) ?_
        refine r_idiv (pc := 34) dX12_areAlike_34 (by first | omega | exact nb _) (by first | omega | exact nb _) (by first | omega | exact nb _) (by first | omega | exact nb _) ?_
        rw [er]
        refine r_imul (pc := 35) dX12_areAlike_35 ?_
        refine r_iadd (pc := 36) dX12_areAlike_36 ?_
        refine r_istore (pc := 37) dX12_areAlike_37 (by decide) ?_
        refine r_bipush (pc := 39) dX12_areAlike_39 (by decide) ?_
        refine r_iconst (pc := 41) dX12_areAlike_41 ?_
        refine r_iload_n (pc := 42) dX12_areAlike_42 rfl ?_
        refine r_aload_n (pc := 43) dX12_areAlike_43 rfl ?_
        refine r_getA (pc := 44) dX12_areAlike_44 frX12_7 (by assumption) (by assumption) ?_
        refine r_bipush (pc := 47) dX12_areAlike_47 (by decide) ?_
        refine r_iald (j := 59) (pc := 49) dX12_areAlike_49 (by assumption) rfl (by first | omega | exact nb _) (by omega) ?_
        refine r_irem (pc := 50) dX12_areAlike_50 (by first | omega | exact nb _) (by first | omega | exact nb _) (by first | omega | exact nb _) (by first | omega | exact nb _) ?_
        rw [eq]
        refine r_imul (pc := 51) dX12_areAlike_51 ?_
        refine r_iadd (pc := 52) dX12_areAlike_52 ?_
        refine r_istore (pc := 53) dX12_areAlike_53 (by decide) ?_
        refine r_iload_n (pc := 55) dX12_areAlike_55 rfl ?_
        refine r_aload_n (pc := 56) dX12_areAlike_56 rfl ?_
        refine r_getA (pc := 57) dX12_areAlike_57 frX12_7 (by assumption) (by assumption) ?_
        refine r_iload (pc := 60) dX12_areAlike_60 rfl ?_
        refine r_iconst (pc := 62) dX12_areAlike_62 ?_
        refine r_iadd (pc := 63) dX12_areAlike_63 ?_
        refine r_iald (j := 61 + 3 * r) (pc := 64) dX12_areAlike_64 (by assumption) (by omega) (by first | omega | exact nb _) (by omega) ?_
        refine r_ishr (pc := 65) dX12_areAlike_65 ?_
        refine r_iconst (pc := 66) dX12_areAlike_66 ?_
        refine r_iand (pc := 67) dX12_areAlike_67 ?_
        rw [bit1]
        refine r_if_ne (pc := 68) 91 dX12_areAlike_68 (by decide) (by first | omega | exact nb _) (fun h68 => ?_) (fun h68 => ?_)
        · skip
          refine r_iconst (pc := 91) dX12_areAlike_91 ?_
          refine r_istore (pc := 92) dX12_areAlike_92 (by decide) ?_
          refine r_iload_n (pc := 94) dX12_areAlike_94 rfl ?_
          rw [ha]
          refine r_if_eq (pc := 95) 145 dX12_areAlike_95 (by decide) (by first | omega | exact nb _) (fun h95 => ?_) (fun h95 => ?_)
          · skip
            refine r_iconst (pc := 145) dX12_areAlike_145 ?_
            refine r_istore_n (pc := 146) dX12_areAlike_146 (by decide) ?_
            refine r_iinc (pc := 147) dX12_areAlike_147 rfl ?_
            refine r_goto (pc := 150) 4 dX12_areAlike_150 (by decide) ?_
            refine ih (o + 1) _ _ _ _ _ (by omega) (by omega) ?_
            have ht : (!t1 && !t2) = false := by first | (rw [bt h68]; rfl) | (rw [bt h84]; cases t1 <;> rfl)
            rw [hst, ht, Bool.false_and, Bool.not_false, Bool.and_true]
            first | exact h95.symm | (rw [bt h95]; rfl)
          · skip
            refine r_iload (pc := 98) dX12_areAlike_98 rfl ?_
            refine r_if_eq (pc := 100) 141 dX12_areAlike_100 (by decide) (by first | omega | exact nb _) (fun h100 => ?_) (fun h100 => ?_)
            · skip
              refine r_iconst (pc := 141) dX12_areAlike_141 ?_
              refine r_goto (pc := 142) 146 dX12_areAlike_142 (by decide) ?_
              refine r_istore_n (pc := 146) dX12_areAlike_146 (by decide) ?_
              refine r_iinc (pc := 147) dX12_areAlike_147 rfl ?_
              refine r_goto (pc := 150) 4 dX12_areAlike_150 (by decide) ?_
              refine ih (o + 1) _ _ _ _ _ (by omega) (by omega) ?_
              have ht : (!t1 && !t2) = false := by first | (rw [bt h68]; rfl) | (rw [bt h84]; cases t1 <;> rfl)
              rw [hst, ht, Bool.false_and, Bool.not_false, Bool.and_true]
              first | exact h95.symm | (rw [bt h95]; rfl)
            · exact absurd h100 (by decide)
        · skip
          refine r_iload_n (pc := 71) dX12_areAlike_71 rfl ?_
          refine r_aload_n (pc := 72) dX12_areAlike_72 rfl ?_
          refine r_getA (pc := 73) dX12_areAlike_73 frX12_7 (by assumption) (by assumption) ?_
          refine r_iload (pc := 76) dX12_areAlike_76 rfl ?_
          refine r_iconst (pc := 78) dX12_areAlike_78 ?_
          refine r_iadd (pc := 79) dX12_areAlike_79 ?_
          refine r_iald (j := 61 + 3 * q) (pc := 80) dX12_areAlike_80 (by assumption) (by omega) (by first | omega | exact nb _) (by omega) ?_
          refine r_ishr (pc := 81) dX12_areAlike_81 ?_
          refine r_iconst (pc := 82) dX12_areAlike_82 ?_
          refine r_iand (pc := 83) dX12_areAlike_83 ?_
          rw [bit2]
          refine r_if_ne (pc := 84) 91 dX12_areAlike_84 (by decide) (by first | omega | exact nb _) (fun h84 => ?_) (fun h84 => ?_)
          · skip
            refine r_iconst (pc := 91) dX12_areAlike_91 ?_
            refine r_istore (pc := 92) dX12_areAlike_92 (by decide) ?_
            refine r_iload_n (pc := 94) dX12_areAlike_94 rfl ?_
            rw [ha]
            refine r_if_eq (pc := 95) 145 dX12_areAlike_95 (by decide) (by first | omega | exact nb _) (fun h95 => ?_) (fun h95 => ?_)
            · skip
              refine r_iconst (pc := 145) dX12_areAlike_145 ?_
              refine r_istore_n (pc := 146) dX12_areAlike_146 (by decide) ?_
              refine r_iinc (pc := 147) dX12_areAlike_147 rfl ?_
              refine r_goto (pc := 150) 4 dX12_areAlike_150 (by decide) ?_
              refine ih (o + 1) _ _ _ _ _ (by omega) (by omega) ?_
              have ht : (!t1 && !t2) = false := by first | (rw [bt h68]; rfl) | (rw [bt h84]; cases t1 <;> rfl)
              rw [hst, ht, Bool.false_and, Bool.not_false, Bool.and_true]
              first | exact h95.symm | (rw [bt h95]; rfl)
            · skip
              refine r_iload (pc := 98) dX12_areAlike_98 rfl ?_
              refine r_if_eq (pc := 100) 141 dX12_areAlike_100 (by decide) (by first | omega | exact nb _) (fun h100 => ?_) (fun h100 => ?_)
              · skip
                refine r_iconst (pc := 141) dX12_areAlike_141 ?_
                refine r_goto (pc := 142) 146 dX12_areAlike_142 (by decide) ?_
                refine r_istore_n (pc := 146) dX12_areAlike_146 (by decide) ?_
                refine r_iinc (pc := 147) dX12_areAlike_147 rfl ?_
                refine r_goto (pc := 150) 4 dX12_areAlike_150 (by decide) ?_
                refine ih (o + 1) _ _ _ _ _ (by omega) (by omega) ?_
                have ht : (!t1 && !t2) = false := by first | (rw [bt h68]; rfl) | (rw [bt h84]; cases t1 <;> rfl)
                rw [hst, ht, Bool.false_and, Bool.not_false, Bool.and_true]
                first | exact h95.symm | (rw [bt h95]; rfl)
              · exact absurd h100 (by decide)
          · skip
            refine r_iconst (pc := 87) dX12_areAlike_87 ?_
            refine r_goto (pc := 88) 92 dX12_areAlike_88 (by decide) ?_
            refine r_istore (pc := 92) dX12_areAlike_92 (by decide) ?_
            refine r_iload_n (pc := 94) dX12_areAlike_94 rfl ?_
            rw [ha]
            refine r_if_eq (pc := 95) 145 dX12_areAlike_95 (by decide) (by first | omega | exact nb _) (fun h95 => ?_) (fun h95 => ?_)
            · skip
              refine r_iconst (pc := 145) dX12_areAlike_145 ?_
              refine r_istore_n (pc := 146) dX12_areAlike_146 (by decide) ?_
              refine r_iinc (pc := 147) dX12_areAlike_147 rfl ?_
              refine r_goto (pc := 150) 4 dX12_areAlike_150 (by decide) ?_
              refine ih (o + 1) _ _ _ _ _ (by omega) (by omega) ?_
              have a1 : t1 = false := by simpa using bf h68
              have a2 : t2 = false := by simpa using bf h84
              first
                | (have hA : A = false := by simpa using bf h95
                   rw [hst, hA]; rfl)
                | (have hA : A = true := bt h95
                   have hd : dd = false := by rw [← hdd]; exact decide_eq_false (fun q => h117 q.1)
                   rw [hst, hA, a1, a2, hd]; rfl)
                | (have hA : A = true := bt h95
                   have hd : dd = true := by rw [← hdd]; exact decide_eq_true ⟨h117, h138⟩
                   rw [hst, hA, a1, a2, hd]; rfl)
                | (have hA : A = true := bt h95
                   have hd : dd = false := by rw [← hdd]; exact decide_eq_false (fun q => q.2 h138)
                   rw [hst, hA, a1, a2, hd]; rfl)
            · skip
              refine r_iload (pc := 98) dX12_areAlike_98 rfl ?_
              refine r_if_eq (pc := 100) 141 dX12_areAlike_100 (by decide) (by first | omega | exact nb _) (fun h100 => ?_) (fun h100 => ?_)
              · exact absurd h100 (by decide)
              · skip
                refine r_aload_n (pc := 103) dX12_areAlike_103 rfl ?_
                refine r_getA (pc := 104) dX12_areAlike_104 frX12_7 (by assumption) (by assumption) ?_
                refine r_iload (pc := 107) dX12_areAlike_107 rfl ?_
                refine r_iald (j := 60 + 3 * r) (pc := 109) dX12_areAlike_109 (by assumption) (by omega) (by first | omega | exact nb _) (by omega) ?_
                refine r_aload_n (pc := 110) dX12_areAlike_110 rfl ?_
                refine r_getA (pc := 111) dX12_areAlike_111 frX12_7 (by assumption) (by assumption) ?_
                refine r_iload (pc := 114) dX12_areAlike_114 rfl ?_
                refine r_iald (j := 60 + 3 * q) (pc := 116) dX12_areAlike_116 (by assumption) (by omega) (by first | omega | exact nb _) (by omega) ?_
                refine r_icmp_ne (pc := 117) 141 dX12_areAlike_117 (by decide) (by first | omega | exact nb _) (by first | omega | exact nb _) (fun h117 => ?_) (fun h117 => ?_)
                · skip
                  refine r_iconst (pc := 141) dX12_areAlike_141 ?_
                  refine r_goto (pc := 142) 146 dX12_areAlike_142 (by decide) ?_
                  refine r_istore_n (pc := 146) dX12_areAlike_146 (by decide) ?_
                  refine r_iinc (pc := 147) dX12_areAlike_147 rfl ?_
                  refine r_goto (pc := 150) 4 dX12_areAlike_150 (by decide) ?_
                  refine ih (o + 1) _ _ _ _ _ (by omega) (by omega) ?_
                  have a1 : t1 = false := by simpa using bf h68
                  have a2 : t2 = false := by simpa using bf h84
                  first
                    | (have hA : A = false := by simpa using bf h95
                       rw [hst, hA]; rfl)
                    | (have hA : A = true := bt h95
                       have hd : dd = false := by rw [← hdd]; exact decide_eq_false (fun q => h117 q.1)
                       rw [hst, hA, a1, a2, hd]; rfl)
                    | (have hA : A = true := bt h95
                       have hd : dd = true := by rw [← hdd]; exact decide_eq_true ⟨h117, h138⟩
                       rw [hst, hA, a1, a2, hd]; rfl)
                    | (have hA : A = true := bt h95
                       have hd : dd = false := by rw [← hdd]; exact decide_eq_false (fun q => q.2 h138)
                       rw [hst, hA, a1, a2, hd]; rfl)
                · skip
                  refine r_aload_n (pc := 120) dX12_areAlike_120 rfl ?_
                  refine r_getA (pc := 121) dX12_areAlike_121 frX12_7 (by assumption) (by assumption) ?_
                  refine r_iload (pc := 124) dX12_areAlike_124 rfl ?_
                  refine r_iconst (pc := 126) dX12_areAlike_126 ?_
                  refine r_iadd (pc := 127) dX12_areAlike_127 ?_
                  refine r_iald (j := 62 + 3 * r) (pc := 128) dX12_areAlike_128 (by assumption) (by omega) (by first | omega | exact nb _) (by omega) ?_
                  refine r_aload_n (pc := 129) dX12_areAlike_129 rfl ?_
                  refine r_getA (pc := 130) dX12_areAlike_130 frX12_7 (by assumption) (by assumption) ?_
                  refine r_iload (pc := 133) dX12_areAlike_133 rfl ?_
                  refine r_iconst (pc := 135) dX12_areAlike_135 ?_
                  refine r_iadd (pc := 136) dX12_areAlike_136 ?_
                  refine r_iald (j := 62 + 3 * q) (pc := 137) dX12_areAlike_137 (by assumption) (by omega) (by first | omega | exact nb _) (by omega) ?_
                  refine r_icmp_ne (pc := 138) 145 dX12_areAlike_138 (by decide) (by first | omega | exact nb _) (by first | omega | exact nb _) (fun h138 => ?_) (fun h138 => ?_)
                  · skip
                    refine r_iconst (pc := 145) dX12_areAlike_145 ?_
                    refine r_istore_n (pc := 146) dX12_areAlike_146 (by decide) ?_
                    refine r_iinc (pc := 147) dX12_areAlike_147 rfl ?_
                    refine r_goto (pc := 150) 4 dX12_areAlike_150 (by decide) ?_
                    refine ih (o + 1) _ _ _ _ _ (by omega) (by omega) ?_
                    have a1 : t1 = false := by simpa using bf h68
                    have a2 : t2 = false := by simpa using bf h84
                    first
                      | (have hA : A = false := by simpa using bf h95
                         rw [hst, hA]; rfl)
                      | (have hA : A = true := bt h95
                         have hd : dd = false := by rw [← hdd]; exact decide_eq_false (fun q => h117 q.1)
                         rw [hst, hA, a1, a2, hd]; rfl)
                      | (have hA : A = true := bt h95
                         have hd : dd = true := by rw [← hdd]; exact decide_eq_true ⟨h117, h138⟩
                         rw [hst, hA, a1, a2, hd]; rfl)
                      | (have hA : A = true := bt h95
                         have hd : dd = false := by rw [← hdd]; exact decide_eq_false (fun q => q.2 h138)
                         rw [hst, hA, a1, a2, hd]; rfl)
                  · skip
                    refine r_iconst (pc := 141) dX12_areAlike_141 ?_
                    refine r_goto (pc := 142) 146 dX12_areAlike_142 (by decide) ?_
                    refine r_istore_n (pc := 146) dX12_areAlike_146 (by decide) ?_
                    refine r_iinc (pc := 147) dX12_areAlike_147 rfl ?_
                    refine r_goto (pc := 150) 4 dX12_areAlike_150 (by decide) ?_
                    refine ih (o + 1) _ _ _ _ _ (by omega) (by omega) ?_
                    have a1 : t1 = false := by simpa using bf h68
                    have a2 : t2 = false := by simpa using bf h84
                    first
                      | (have hA : A = false := by simpa using bf h95
                         rw [hst, hA]; rfl)
                      | (have hA : A = true := bt h95
                         have hd : dd = false := by rw [← hdd]; exact decide_eq_false (fun q => h117 q.1)
                         rw [hst, hA, a1, a2, hd]; rfl)
                      | (have hA : A = true := bt h95
                         have hd : dd = true := by rw [← hdd]; exact decide_eq_true ⟨h117, h138⟩
                         rw [hst, hA, a1, a2, hd]; rfl)
                      | (have hA : A = true := bt h95
                         have hd : dd = false := by rw [← hdd]; exact decide_eq_false (fun q => q.2 h138)
                         rw [hst, hA, a1, a2, hd]; rfl)
  refine r_iconst (pc := 0) dX12_areAlike_0 ?_
  refine r_istore_n (pc := 1) dX12_areAlike_1 (by decide) ?_
  refine r_iconst (pc := 2) dX12_areAlike_2 ?_
  refine r_istore_n (pc := 3) dX12_areAlike_3 (by decide) ?_
  exact loop (n * n) 0 _ _ _ _ _ (by omega) rfl rfl
def liarsM (T : RS) (w : Int) : Int × RS := if 0 ≤ w ∧ w ≤ 1 then (if w = 0 then fewM T.1 (T.1 59).toNat (2 ^ sizeF T.1) else (sureL T.1 (T.1 59).toNat (2 ^ sizeF T.1 - 1) (2 ^ sizeF T.1) : Int), T) else (-2, zB T)
theorem sX12_liars {w : Int} (hm : RfL G C P m := by assumption) (hF : FI (I (m + 1)) Y := by assumption) (hBI : BI (I (m + 1)) := by assumption) (hw : iR w := by omega) : SX12_liars G [.ref m, .int (zI w)] C I P L (NI C (QZ m (liarsM (rdM m I L) w).1 (liarsM (rdM m I L) w).2 P)) := by
  obtain ⟨hBm, hKm, hK1, hK2, hK3, hK4, hK5, hK6, hK7, hK8, hK9, hK10, hK11, hP0, hP1, hP2, hP3, hP6, hP7, hP8, hP9, hP10, hP16, hP17⟩ := id hm
  obtain ⟨hs6, hsz⟩ := sizeF_le hF
  have b3 := hBI.2.2.1
  have nb : ∀ b : Bool, iR (if b = true then 1 else 0) := fun b => by cases b <;> decide
  obtain ⟨n, hn⟩ : ∃ n : Nat, I (m + 1) 59 = (n : Int) := ⟨(I (m + 1) 59).toNat, by omega⟩
  have hshl : b_shl 1 (I (m + 1) 6) = ((2 ^ sizeF (I (m + 1)) : Nat) : Int) := by rw [← hsz]; exact b_shl1 (by omega)
  have hp1 : 1 ≤ 2 ^ sizeF (I (m + 1)) := Nat.pow_pos (by decide)
  have hp2 : 2 ^ sizeF (I (m + 1)) ≤ 64 := Nat.le_trans (Nat.pow_le_pow_right (by decide) hs6) (by decide)
  have hM : 0 ≤ w ∧ w ≤ 1 → liarsM (rdM m I L) w = (if w = 0 then fewM (I (m + 1)) n (2 ^ sizeF (I (m + 1))) else (sureL (I (m + 1)) n (2 ^ sizeF (I (m + 1)) - 1) (2 ^ sizeF (I (m + 1))) : Int), rdM m I L) := fun hz => by
    unfold liarsM; rw [if_pos hz, rdM_1, hn, Int.toNat_natCast]
  generalize hp : 2 ^ sizeF (I (m + 1)) = p2 at hshl hp1 hp2 hM
  refine en_I (by decide +kernel) (Nat.le_of_ble_eq_true rfl) ?_
  change Wd _ _ _ _ _ _ _ _ 0 [some _, some _, none, none, none, none] [] _ _ _ _
  have loop : (0 ≤ w ∧ w ≤ 1) → ∀ (d s : Nat) (si b u : Int) (w5 : Option Value), s + d = p2 → si = (s : Int) → b = fewM (I (m + 1)) n s → u = (sureL (I (m + 1)) n (p2 - 1) s : Int) → Wd G yX12_liars cX12_liars 6 (some .int) 1 (C.2.1 + 0, C.2.2 + 0) (NI C (QZ m (liarsM (rdM m I L) w).1 (liarsM (rdM m I L) w).2 P)) 31 [some (.ref m), some (.int (zI w)), some (.int (zI b)), some (.int (zI u)), some (.int (zI si)), w5] [] C I P L := by
    intro hz d
    rw [hM hz]
    induction d with
    | zero =>
      intro s si b u w5 hd hsi hb hu
      have hse : s = p2 := by omega
      rw [hse] at hb hu
      refine r_iload (pc := 31) dX12_liars_31 rfl ?_
      refine r_iconst (pc := 33) dX12_liars_33 ?_
      refine r_aload_n (pc := 34) dX12_liars_34 rfl ?_
      refine i_V0ix (pc := 35) okX12_families inX12_families selX12_families q1118 dX12_liars_35 (by assumption) rfl (by decide) (Nat.le_of_ble_eq_true rfl) (sX12_families) ?_
      refine r_ishl (pc := 38) dX12_liars_38 ?_
      rw [hshl]
      refine r_icmp_ge (pc := 39) 99 dX12_liars_39 (by decide) (by omega) (by omega) (fun h39 => ?_) (fun h39 => ?_)
      · skip
        refine r_iload_n (pc := 99) dX12_liars_99 rfl ?_
        refine r_if_ne (pc := 100) 107 dX12_liars_100 (by decide) (by omega) (fun h100 => ?_) (fun h100 => ?_)
        · skip
          refine r_iload_n (pc := 107) dX12_liars_107 rfl ?_
          refine t_iret (pc := 108) dX12_liars_108 rfl rfl ?_
          exact ⟨by rw [hu]; show _ = (if w = 0 then _ else _); rw [if_neg (by omega)], rfl, rfl⟩
        · skip
          refine r_iload_n (pc := 103) dX12_liars_103 rfl ?_
          refine r_goto (pc := 104) 108 dX12_liars_104 (by decide) ?_
          refine t_iret (pc := 108) dX12_liars_108 rfl rfl ?_
          exact ⟨by rw [hb]; show _ = (if w = 0 then _ else _); rw [if_pos (by omega)], rfl, rfl⟩
      · exfalso; omega
    | succ d ih =>
      intro s si b u w5 hd hsi hb hu
      have hfi := fewM_in (I (m + 1)) n s
      rw [← hb] at hfi
      have hsi2 := sureL_in (I (m + 1)) n (p2 - 1) s
      have hst := few_st (I (m + 1)) n s
      have hst2 := sure_st (I (m + 1)) n (p2 - 1) s
      rw [← hb] at hst
      obtain ⟨v1, hv1, hv1p⟩ : ∃ v, v = popW 30 s ∧ v = pop s := ⟨_, rfl, pop_W ⟨s, by omega⟩⟩
      obtain ⟨v2, hv2, hv2p⟩ : ∃ v, v = popW 30 b.toNat ∧ v = pop b.toNat := ⟨_, rfl, pop_W ⟨b.toNat, by omega⟩⟩
      rw [← hv1p, ← hv2p] at hst
      have p1 := pop_le s
      have p2' := pop_le b.toNat
      rw [← hv1p] at p1
      rw [← hv2p] at p2'
      generalize hsu : sureL (I (m + 1)) n (p2 - 1) s = su at hu hsi2 hst2
      have hum1 := and_m1 ⟨su, by omega⟩
      replace hum1 : b_and (su : Int) (-1) = (su : Int) := hum1
      have huan := b_andN (a := su) (b := s) (by omega)
      rw [← hu] at hum1 huan
      rw [← hsi] at huan
      generalize hAl : alikeB (I (m + 1)) s n = A at hst hst2
      refine r_iload (pc := 31) dX12_liars_31 rfl ?_
      refine r_iconst (pc := 33) dX12_liars_33 ?_
      refine r_aload_n (pc := 34) dX12_liars_34 rfl ?_
      refine i_V0ix (pc := 35) okX12_families inX12_families selX12_families q1118 dX12_liars_35 (by assumption) rfl (by decide) (Nat.le_of_ble_eq_true rfl) (sX12_families) ?_
      refine r_ishl (pc := 38) dX12_liars_38 ?_
      rw [hshl]
      refine r_icmp_ge (pc := 39) 99 dX12_liars_39 (by decide) (by first | omega | exact nb _) (by first | omega | exact nb _) (fun h39 => ?_) (fun h39 => ?_)
      · exfalso; omega
      · skip
        refine r_aload_n (pc := 42) dX12_liars_42 rfl ?_
        refine r_iload (pc := 43) dX12_liars_43 rfl ?_
        refine i_V1ix (pc := 45) okX12_areAlike inX12_areAlike selX12_areAlike q1324 dX12_liars_45 (by assumption) rfl (by decide) (Nat.le_of_ble_eq_true rfl) (sX12_areAlike (s := s) (n := n)) ?_
        rw [hAl]
        refine r_istore (pc := 48) dX12_liars_48 (by decide) ?_
        refine r_iload (pc := 50) dX12_liars_50 rfl ?_
        refine r_if_eq (pc := 52) 77 dX12_liars_52 (by decide) (by first | omega | exact nb _) (fun h52 => ?_) (fun h52 => ?_)
        · skip
          refine r_iload_n (pc := 77) dX12_liars_77 rfl ?_
          refine r_istore_n (pc := 78) dX12_liars_78 (by decide) ?_
          refine r_iload_n (pc := 79) dX12_liars_79 rfl ?_
          refine r_iload (pc := 80) dX12_liars_80 rfl ?_
          refine r_if_eq (pc := 82) 90 dX12_liars_82 (by decide) (by first | omega | exact nb _) (fun h82 => ?_) (fun h82 => ?_)
          · skip
            refine r_iconst (pc := 90) dX12_liars_90 ?_
            refine r_iand (pc := 91) dX12_liars_91 ?_
            refine r_istore_n (pc := 92) dX12_liars_92 (by decide) ?_
            refine r_iinc (pc := 93) dX12_liars_93 rfl ?_
            refine r_goto (pc := 96) 31 dX12_liars_96 (by decide) ?_
            first
            | (exfalso; exact h82 (by assumption))
            | (rw [hum1]
               refine ih (s + 1) _ _ _ _ (by omega) (by omega) ?_ ?_
               · rw [hst, if_neg (fun q => by rw [q.1] at h52; exact absurd h52 (by decide))]
               · rw [hst2, if_neg (fun q => by rw [q] at h52; exact absurd h52 (by decide))]; exact hu)
            | (exfalso; revert h52 h82; cases A <;> simp)
          · skip
            refine r_iload (pc := 85) dX12_liars_85 rfl ?_
            refine r_goto (pc := 87) 91 dX12_liars_87 (by decide) ?_
            refine r_iand (pc := 91) dX12_liars_91 ?_
            refine r_istore_n (pc := 92) dX12_liars_92 (by decide) ?_
            refine r_iinc (pc := 93) dX12_liars_93 rfl ?_
            refine r_goto (pc := 96) 31 dX12_liars_96 (by decide) ?_
            rw [huan]
            first
            | (exfalso; revert h52 h82; cases A <;> simp; done)
            | (refine ih (s + 1) _ _ _ _ (by omega) (by omega) ?_ ?_
               · rw [hst, if_pos ⟨bt h52, by omega⟩]; exact hsi
               · rw [hst2, if_pos (bt h52)])
            | (refine ih (s + 1) _ _ _ _ (by omega) (by omega) ?_ ?_
               · rw [hst, if_neg (fun q => by omega)]
               · rw [hst2, if_pos (bt h52)])
        · skip
          refine r_iload_n (pc := 55) dX12_liars_55 rfl ?_
          refine r_iconst (pc := 56) dX12_liars_56 ?_
          refine r_icmp_eq (pc := 57) 72 dX12_liars_57 (by decide) (by first | omega | exact nb _) (by first | omega | exact nb _) (fun h57 => ?_) (fun h57 => ?_)
          · skip
            refine r_iload (pc := 72) dX12_liars_72 rfl ?_
            refine r_goto (pc := 74) 78 dX12_liars_74 (by decide) ?_
            refine r_istore_n (pc := 78) dX12_liars_78 (by decide) ?_
            refine r_iload_n (pc := 79) dX12_liars_79 rfl ?_
            refine r_iload (pc := 80) dX12_liars_80 rfl ?_
            refine r_if_eq (pc := 82) 90 dX12_liars_82 (by decide) (by first | omega | exact nb _) (fun h82 => ?_) (fun h82 => ?_)
            · skip
              refine r_iconst (pc := 90) dX12_liars_90 ?_
              refine r_iand (pc := 91) dX12_liars_91 ?_
              refine r_istore_n (pc := 92) dX12_liars_92 (by decide) ?_
              refine r_iinc (pc := 93) dX12_liars_93 rfl ?_
              refine r_goto (pc := 96) 31 dX12_liars_96 (by decide) ?_
              first
              | (exfalso; exact h82 (by assumption))
              | (rw [hum1]
                 refine ih (s + 1) _ _ _ _ (by omega) (by omega) ?_ ?_
                 · rw [hst, if_neg (fun q => by rw [q.1] at h52; exact absurd h52 (by decide))]
                 · rw [hst2, if_neg (fun q => by rw [q] at h52; exact absurd h52 (by decide))]; exact hu)
              | (exfalso; revert h52 h82; cases A <;> simp)
            · skip
              refine r_iload (pc := 85) dX12_liars_85 rfl ?_
              refine r_goto (pc := 87) 91 dX12_liars_87 (by decide) ?_
              refine r_iand (pc := 91) dX12_liars_91 ?_
              refine r_istore_n (pc := 92) dX12_liars_92 (by decide) ?_
              refine r_iinc (pc := 93) dX12_liars_93 rfl ?_
              refine r_goto (pc := 96) 31 dX12_liars_96 (by decide) ?_
              rw [huan]
              first
              | (exfalso; revert h52 h82; cases A <;> simp; done)
              | (refine ih (s + 1) _ _ _ _ (by omega) (by omega) ?_ ?_
                 · rw [hst, if_pos ⟨bt h52, by omega⟩]; exact hsi
                 · rw [hst2, if_pos (bt h52)])
              | (refine ih (s + 1) _ _ _ _ (by omega) (by omega) ?_ ?_
                 · rw [hst, if_neg (fun q => by omega)]
                 · rw [hst2, if_pos (bt h52)])
          · skip
            refine r_iload (pc := 60) dX12_liars_60 rfl ?_
            refine i_S1ix (pc := 62) okX12_bits staX12_bits q1266 dX12_liars_62 (by decide) (Nat.le_of_ble_eq_true rfl) (sX12_bits (s := s)) ?_
            rw [← hv1]
            refine r_iload_n (pc := 65) dX12_liars_65 rfl ?_
            refine i_S1ix (pc := 66) okX12_bits staX12_bits q1266 dX12_liars_66 (by decide) (Nat.le_of_ble_eq_true rfl) (sX12_bits (s := b.toNat)) ?_
            rw [← hv2]
            refine r_icmp_ge (pc := 69) 77 dX12_liars_69 (by decide) (by first | omega | exact nb _) (by first | omega | exact nb _) (fun h69 => ?_) (fun h69 => ?_)
            · skip
              refine r_iload_n (pc := 77) dX12_liars_77 rfl ?_
              refine r_istore_n (pc := 78) dX12_liars_78 (by decide) ?_
              refine r_iload_n (pc := 79) dX12_liars_79 rfl ?_
              refine r_iload (pc := 80) dX12_liars_80 rfl ?_
              refine r_if_eq (pc := 82) 90 dX12_liars_82 (by decide) (by first | omega | exact nb _) (fun h82 => ?_) (fun h82 => ?_)
              · skip
                refine r_iconst (pc := 90) dX12_liars_90 ?_
                refine r_iand (pc := 91) dX12_liars_91 ?_
                refine r_istore_n (pc := 92) dX12_liars_92 (by decide) ?_
                refine r_iinc (pc := 93) dX12_liars_93 rfl ?_
                refine r_goto (pc := 96) 31 dX12_liars_96 (by decide) ?_
                first
                | (exfalso; exact h82 (by assumption))
                | (rw [hum1]
                   refine ih (s + 1) _ _ _ _ (by omega) (by omega) ?_ ?_
                   · rw [hst, if_neg (fun q => by rw [q.1] at h52; exact absurd h52 (by decide))]
                   · rw [hst2, if_neg (fun q => by rw [q] at h52; exact absurd h52 (by decide))]; exact hu)
                | (exfalso; revert h52 h82; cases A <;> simp)
              · skip
                refine r_iload (pc := 85) dX12_liars_85 rfl ?_
                refine r_goto (pc := 87) 91 dX12_liars_87 (by decide) ?_
                refine r_iand (pc := 91) dX12_liars_91 ?_
                refine r_istore_n (pc := 92) dX12_liars_92 (by decide) ?_
                refine r_iinc (pc := 93) dX12_liars_93 rfl ?_
                refine r_goto (pc := 96) 31 dX12_liars_96 (by decide) ?_
                rw [huan]
                first
                | (exfalso; revert h52 h82; cases A <;> simp; done)
                | (refine ih (s + 1) _ _ _ _ (by omega) (by omega) ?_ ?_
                   · rw [hst, if_pos ⟨bt h52, by omega⟩]; exact hsi
                   · rw [hst2, if_pos (bt h52)])
                | (refine ih (s + 1) _ _ _ _ (by omega) (by omega) ?_ ?_
                   · rw [hst, if_neg (fun q => by omega)]
                   · rw [hst2, if_pos (bt h52)])
            · skip
              refine r_iload (pc := 72) dX12_liars_72 rfl ?_
              refine r_goto (pc := 74) 78 dX12_liars_74 (by decide) ?_
              refine r_istore_n (pc := 78) dX12_liars_78 (by decide) ?_
              refine r_iload_n (pc := 79) dX12_liars_79 rfl ?_
              refine r_iload (pc := 80) dX12_liars_80 rfl ?_
              refine r_if_eq (pc := 82) 90 dX12_liars_82 (by decide) (by first | omega | exact nb _) (fun h82 => ?_) (fun h82 => ?_)
              · skip
                refine r_iconst (pc := 90) dX12_liars_90 ?_
                refine r_iand (pc := 91) dX12_liars_91 ?_
                refine r_istore_n (pc := 92) dX12_liars_92 (by decide) ?_
                refine r_iinc (pc := 93) dX12_liars_93 rfl ?_
                refine r_goto (pc := 96) 31 dX12_liars_96 (by decide) ?_
                first
                | (exfalso; exact h82 (by assumption))
                | (rw [hum1]
                   refine ih (s + 1) _ _ _ _ (by omega) (by omega) ?_ ?_
                   · rw [hst, if_neg (fun q => by rw [q.1] at h52; exact absurd h52 (by decide))]
                   · rw [hst2, if_neg (fun q => by rw [q] at h52; exact absurd h52 (by decide))]; exact hu)
                | (exfalso; revert h52 h82; cases A <;> simp)
              · skip
                refine r_iload (pc := 85) dX12_liars_85 rfl ?_
                refine r_goto (pc := 87) 91 dX12_liars_87 (by decide) ?_
                refine r_iand (pc := 91) dX12_liars_91 ?_
                refine r_istore_n (pc := 92) dX12_liars_92 (by decide) ?_
                refine r_iinc (pc := 93) dX12_liars_93 rfl ?_
                refine r_goto (pc := 96) 31 dX12_liars_96 (by decide) ?_
                rw [huan]
                first
                | (exfalso; revert h52 h82; cases A <;> simp; done)
                | (refine ih (s + 1) _ _ _ _ (by omega) (by omega) ?_ ?_
                   · rw [hst, if_pos ⟨bt h52, by omega⟩]; exact hsi
                   · rw [hst2, if_pos (bt h52)])
                | (refine ih (s + 1) _ _ _ _ (by omega) (by omega) ?_ ?_
                   · rw [hst, if_neg (fun q => by omega)]
                   · rw [hst2, if_pos (bt h52)])
  refine r_iload_n (pc := 0) dX12_liars_0 rfl ?_
  refine r_i2l (pc := 1) dX12_liars_1 (by first | omega | (split <;> decide)) ?_
  refine r_lconst (v := 0) (pc := 2) dX12_liars_2 (by decide) ?_
  refine r_lconst (v := 1) (pc := 3) dX12_liars_3 (by decide) ?_
  refine i_S3ix (pc := 4) okX12_in staX12_in q1098 dX12_liars_4 (by decide) (Nat.le_of_ble_eq_true rfl) (sX12_in) ?_
  refine r_if_ne (pc := 7) 17 dX12_liars_7 (by decide) (by first | omega | (split <;> decide)) (fun h7 => ?_) (fun h7 => ?_)
  · skip
    have h1 := wt h7
    refine r_iconst (pc := 17) dX12_liars_17 ?_
    refine r_istore_n (pc := 18) dX12_liars_18 (by decide) ?_
    refine r_iconst (pc := 19) dX12_liars_19 ?_
    refine r_aload_n (pc := 20) dX12_liars_20 rfl ?_
    refine i_V0ix (pc := 21) okX12_families inX12_families selX12_families q1118 dX12_liars_21 (by assumption) rfl (by decide) (Nat.le_of_ble_eq_true rfl) (sX12_families) ?_
    refine r_ishl (pc := 24) dX12_liars_24 ?_
    rw [hshl]
    refine r_iconst (pc := 25) dX12_liars_25 ?_
    refine r_isub (pc := 26) dX12_liars_26 ?_
    refine r_istore_n (pc := 27) dX12_liars_27 (by decide) ?_
    refine r_iconst (pc := 28) dX12_liars_28 ?_
    refine r_istore (pc := 29) dX12_liars_29 (by decide) ?_
    exact loop h1 p2 0 _ _ _ _ (by omega) rfl rfl (by show _ = (((p2 - 1 : Nat)) : Int); omega)
  · skip
    refine r_aload_n (pc := 10) dX12_liars_10 rfl ?_
    refine r_bipush (pc := 11) dX12_liars_11 (by decide) ?_
    refine i_V1ix (pc := 13) okX12_bad inX12_bad selX12_bad q1101 dX12_liars_13 (by assumption) rfl (by decide) (Nat.le_of_ble_eq_true rfl) (sX12_bad) ?_
    refine t_iret (pc := 16) dX12_liars_16 rfl rfl ?_
    unfold liarsM
    rw [if_neg (wf h7)]
    exact QZ_bad
end REF10

