/-! who lies; what is owed -/
def pop (s : Nat) : Nat := s % 2 + s / 2 % 2 + s / 4 % 2 + s / 8 % 2 + s / 16 % 2 + s / 32 % 2
theorem pop_le (s : Nat) : pop s ≤ 6 := by unfold pop; omega
def bcE (x : Int) : Int :=
  let a := x - b_and (b_ushr x 1) 1431655765
  let b := b_and a 858993459 + b_and (b_ushr a 2) 858993459
  let c := b_and (b + b_ushr b 4) 252645135
  let d := c + b_ushr c 8
  let e := d + b_ushr d 16
  b_and e 63
theorem bcE_ok : ∀ n : Fin 64, bcE (n.val : Int) = (pop n.val : Int) := by decide +kernel
theorem bcE_all : bcE (-1) = 32 := by decide +kernel
theorem sJ6_bitCount {G : WG} {C : CF} {I : MI} {P : MP} {L : ML} {x : Int} : SJ6_bitCount_0f7a4 G [.int (zI x)] C I P L (NI C (XI (bcE x) I P L)) := by
  refine en_I (by decide +kernel) (Nat.le_of_ble_eq_true rfl) ?_
  change Wd _ _ _ _ _ _ _ _ 0 [some _] [] _ _ _ _
  refine r_iload_n (pc := 0) dJ6_bitCount_0f7a4_0 rfl ?_
  refine r_iload_n (pc := 1) dJ6_bitCount_0f7a4_1 rfl ?_
  refine r_iconst (pc := 2) dJ6_bitCount_0f7a4_2 ?_
  refine r_iushr (pc := 3) dJ6_bitCount_0f7a4_3 ?_
  refine r_ldc_w (v := (1431655765 : Int)) (pc := 4) dJ6_bitCount_0f7a4_4 kcJ6_265 ?_
  refine r_iand (pc := 7) dJ6_bitCount_0f7a4_7 ?_
  refine r_isub (pc := 8) dJ6_bitCount_0f7a4_8 ?_
  refine r_istore_n (pc := 9) dJ6_bitCount_0f7a4_9 (by decide) ?_
  refine r_iload_n (pc := 10) dJ6_bitCount_0f7a4_10 rfl ?_
  refine r_ldc_w (v := (858993459 : Int)) (pc := 11) dJ6_bitCount_0f7a4_11 kcJ6_266 ?_
  refine r_iand (pc := 14) dJ6_bitCount_0f7a4_14 ?_
  refine r_iload_n (pc := 15) dJ6_bitCount_0f7a4_15 rfl ?_
  refine r_iconst (pc := 16) dJ6_bitCount_0f7a4_16 ?_
  refine r_iushr (pc := 17) dJ6_bitCount_0f7a4_17 ?_
  refine r_ldc_w (v := (858993459 : Int)) (pc := 18) dJ6_bitCount_0f7a4_18 kcJ6_266 ?_
  refine r_iand (pc := 21) dJ6_bitCount_0f7a4_21 ?_
  refine r_iadd (pc := 22) dJ6_bitCount_0f7a4_22 ?_
  refine r_istore_n (pc := 23) dJ6_bitCount_0f7a4_23 (by decide) ?_
  refine r_iload_n (pc := 24) dJ6_bitCount_0f7a4_24 rfl ?_
  refine r_iload_n (pc := 25) dJ6_bitCount_0f7a4_25 rfl ?_
  refine r_iconst (pc := 26) dJ6_bitCount_0f7a4_26 ?_
  refine r_iushr (pc := 27) dJ6_bitCount_0f7a4_27 ?_
  refine r_iadd (pc := 28) dJ6_bitCount_0f7a4_28 ?_
  refine r_ldc_w (v := (252645135 : Int)) (pc := 29) dJ6_bitCount_0f7a4_29 kcJ6_267 ?_
  refine r_iand (pc := 32) dJ6_bitCount_0f7a4_32 ?_
  refine r_istore_n (pc := 33) dJ6_bitCount_0f7a4_33 (by decide) ?_
  refine r_iload_n (pc := 34) dJ6_bitCount_0f7a4_34 rfl ?_
  refine r_iload_n (pc := 35) dJ6_bitCount_0f7a4_35 rfl ?_
  refine r_bipush (pc := 36) dJ6_bitCount_0f7a4_36 (by decide) ?_
  refine r_iushr (pc := 38) dJ6_bitCount_0f7a4_38 ?_
  refine r_iadd (pc := 39) dJ6_bitCount_0f7a4_39 ?_
  refine r_istore_n (pc := 40) dJ6_bitCount_0f7a4_40 (by decide) ?_
  refine r_iload_n (pc := 41) dJ6_bitCount_0f7a4_41 rfl ?_
  refine r_iload_n (pc := 42) dJ6_bitCount_0f7a4_42 rfl ?_
  refine r_bipush (pc := 43) dJ6_bitCount_0f7a4_43 (by decide) ?_
  refine r_iushr (pc := 45) dJ6_bitCount_0f7a4_45 ?_
  refine r_iadd (pc := 46) dJ6_bitCount_0f7a4_46 ?_
  refine r_istore_n (pc := 47) dJ6_bitCount_0f7a4_47 (by decide) ?_
  refine r_iload_n (pc := 48) dJ6_bitCount_0f7a4_48 rfl ?_
  refine r_bipush (pc := 49) dJ6_bitCount_0f7a4_49 (by decide) ?_
  refine r_iand (pc := 51) dJ6_bitCount_0f7a4_51 ?_
  refine t_iret (pc := 52) dJ6_bitCount_0f7a4_52 rfl rfl ?_
  exact ⟨rfl, rfl, rfl, rfl⟩
theorem sBit {G : WG} {C : CF} {I : MI} {P : MP} {L : ML} {x : Int} {n : Nat} (hx : x = (n : Int) := by first | rfl | omega) (hn : n < 64 := by omega) : SJ6_bitCount_0f7a4 G [.int (zI x)] C I P L (NI C (XI (pop n) I P L)) := by
  have h := sJ6_bitCount (G := G) (C := C) (I := I) (P := P) (L := L) (x := x)
  rw [hx, bcE_ok ⟨n, hn⟩] at h
  rw [hx]
  exact h
theorem sBitAll {G : WG} {C : CF} {I : MI} {P : MP} {L : ML} : SJ6_bitCount_0f7a4 G [.int (zI (-1))] C I P L (NI C (XI 32 I P L)) := by
  have h := sJ6_bitCount (G := G) (C := C) (I := I) (P := P) (L := L) (x := -1)
  rw [bcE_all] at h
  exact h
/-- a report is told by one outside a set; two differ on one year -/
def toldB (B : Nat → Int) (r s : Nat) : Bool := !(s.testBit (B (61 + 3 * r)).toNat)
def diffB (B : Nat → Int) (r q : Nat) : Bool := decide (B (60 + 3 * r) = B (60 + 3 * q) ∧ B (62 + 3 * r) ≠ B (62 + 3 * q))
def badB (B : Nat → Int) (s r q : Nat) : Bool := toldB B r s && toldB B q s && diffB B r q
def alikeB (B : Nat → Int) (s n : Nat) : Bool := decide (∀ r, r < n → ∀ q, q < r → badB B s r q = false)
def fewL (B : Nat → Int) (n all : Nat) : Nat → Nat
  | 0 => all
  | s + 1 => if alikeB B s n = true ∧ pop s < pop (fewL B n all s) then s else fewL B n all s
theorem fewL_in (B : Nat → Int) (n all : Nat) : ∀ s, s ≤ all + 1 → fewL B n all s ≤ all := by
  intro s
  induction s with
  | zero => intro _; exact Nat.le_refl _
  | succ s ih =>
    intro h
    have h2 := ih (by omega)
    unfold fewL
    split <;> omega
def sureL (B : Nat → Int) (n all : Nat) : Nat → Nat
  | 0 => all
  | s + 1 => if alikeB B s n = true then sureL B n all s &&& s else sureL B n all s
theorem sureL_in (B : Nat → Int) (n all : Nat) : ∀ s, sureL B n all s ≤ all := by
  intro s
  induction s with
  | zero => exact Nat.le_refl _
  | succ s ih =>
    unfold sureL
    split
    · exact Nat.le_trans Nat.and_le_left ih
    · exact ih
theorem all_lt {k : Nat} (h : k ≤ 6) : b_shl 1 (k : Int) - 1 = ((2 ^ k - 1 : Nat) : Int) ∧ 2 ^ k - 1 < 64 := by
  have h1 := b_shl1 (k := k) (by omega)
  have h2 : 2 ^ k ≤ 2 ^ 6 := Nat.pow_le_pow_right (by decide) h
  have h3 : (2 : Nat) ^ 6 = 64 := rfl
  have h4 : 1 ≤ 2 ^ k := Nat.one_le_two_pow
  rw [h1]
  generalize 2 ^ k = p at *
  omega
/-- a debt's due, and a family's net -/
def dueB (B : Nat → Int) (w : Int) (d : Nat) : Int := B (36 + 3 * d) + B (36 + 3 * d) * B 58 * w / 100
def balB (B : Nat → Int) (w f : Int) : Nat → Int
  | 0 => 0
  | d + 1 => balB B w f d + (if B (35 + 3 * d) = f then dueB B w d else 0) - (if B (34 + 3 * d) = f then dueB B w d else 0)
theorem mul3_in {n r w : Int} (h1 : 0 ≤ n ∧ n ≤ 999) (h2 : 0 ≤ r ∧ r ≤ 50) (h3 : 0 ≤ w ∧ w ≤ 69) : 0 ≤ n * r * w ∧ n * r * w ≤ 3446550 := by
  have a1 : 0 ≤ n * r := Int.mul_nonneg h1.1 h2.1
  have a2 : n * r ≤ 999 * 50 := Int.mul_le_mul h1.2 h2.2 h2.1 (by decide)
  have a3 : 0 ≤ n * r * w := Int.mul_nonneg a1 h3.1
  have a4 : n * r * w ≤ 49950 * 69 := Int.mul_le_mul (by omega) h3.2 h3.1 (by decide)
  omega
theorem dueB_in {B : Nat → Int} (h : BI B) {w : Int} (hw : 0 ≤ w ∧ w ≤ 69) {d : Nat} (hd : d < 8) : 0 ≤ dueB B w d ∧ dueB B w d ≤ 40000 := by
  have h1 := mul3_in (h.2.2.2.2.1 d hd).2.2 h.1 hw
  have h2 := (h.2.2.2.2.1 d hd).2.2
  unfold dueB
  omega
theorem balB_in {B : Nat → Int} (h : BI B) {w : Int} (hw : 0 ≤ w ∧ w ≤ 69) (f : Int) : ∀ d : Nat, d ≤ 8 → -40000 * d ≤ balB B w f d ∧ balB B w f d ≤ 40000 * d := by
  intro d
  induction d with
  | zero => intro _; simp [balB]
  | succ d ih =>
    intro hd
    have h1 := ih (by omega)
    have h2 := dueB_in h hw (d := d) (by omega)
    unfold balB
    split <;> split <;> omega
theorem sX0_balance {G : WG} {C : CF} {I : MI} {P : MP} {L : ML} {b : Nat} {f w : Int} (hb : BooksL G C P b := by assumption) (hI : BI (rdB I b) := by assumption) (hw : 0 ≤ w ∧ w ≤ 69 := by omega) (hf : iR f := by omega) : SX0_balance G [.ref b, .int (zI f), .int (zI w)] C I P L (NI C (XI (balB (rdB I b) w f (rdB I b 33).toNat) I P L)) := by
  obtain ⟨hB, hK, hK1, hK2, hK3, hK4, hK5, hK6, hK7, hP1, hP2, hP3, hP4, hP5, hP6, hP7⟩ := id hb
  obtain ⟨i0, i1, -, -, iD, -⟩ := id hI
  generalize hBB : rdB I b = B at *
  generalize hq : XI (balB B w f (B 33).toNat) I P L = q
  have e0 : I b 0 = B 58 := by rw [ab_0 I b, hBB]
  have e1 : I b 1 = B 33 := by rw [ab_1 I b, hBB]
  refine en_I (by decide +kernel) (Nat.le_of_ble_eq_true rfl) ?_
  change Wd _ _ _ _ _ _ _ _ 0 [some _, some _, some _, none, none, none, none] [] _ _ _ _
  have loop : ∀ (d n : Nat) (i k : Int) (x y : Option Value), n + d = (B 33).toNat → i = (n : Int) → k = balB B w f n → Wd G yX0_balance cX0_balance 7 (some .int) 1 (C.2.1 + 0, C.2.2 + 0) (NI C q) 5 [some (.ref b), some (.int (zI f)), some (.int (zI w)), some (.int (zI k)), some (.int (zI i)), x, y] [] C I P L := by
    intro d
    induction d using Nat.strongRecOn with
    | _ d ih =>
      intro n i k x y hd hi hk
      have hkr := balB_in hI hw f n (by omega)
      refine r_iload (pc := 5) dX0_balance_5 rfl ?_
      refine r_aload_n (pc := 7) dX0_balance_7 rfl ?_
      refine r_getI (pc := 8) dX0_balance_8 frX0_37 (by assumption) ?_
      refine r_icmp_ge (pc := 11) 84 dX0_balance_11 (by decide) (by omega) (by omega) (fun h11 => ?_) (fun h11 => ?_)
      · skip
        refine r_iload_n (pc := 84) dX0_balance_84 rfl ?_
        refine t_iret (pc := 85) dX0_balance_85 rfl rfl ?_
        subst hq; exact ⟨by rw [hk, show n = (B 33).toNat by omega], rfl, rfl, rfl⟩
      · skip
        have hn : n < 8 := by omega
        have ey := ab_f I b hn
        have el := ab_t I b hn
        have ec := ab_o I b hn
        have bw := iD n hn
        rw [hBB] at ey el ec
        have hm := mul3_in bw.2.2 i0 hw
        have hdu := dueB_in hI hw hn
        have hdd : dueB B w n = I (b + 3) n + I (b + 3) n * I b 0 * w / 100 := by rw [dueB, ec, e0]
        rw [← e0, ← ec] at hm
        rw [← ey, ← el, ← ec] at bw
        rw [hdd] at hdu
        refine r_aload_n (pc := 14) dX0_balance_14 rfl ?_
        refine r_getA (pc := 15) dX0_balance_15 frX0_18 (by assumption) (by assumption) ?_
        refine r_iload (pc := 18) dX0_balance_18 rfl ?_
        refine i_SN2ix (pc := 20) okX11_at staX11_at nwX0_54 dX0_balance_20 (by decide) (Nat.le_of_ble_eq_true rfl) (sX11_at (n := 8) (j := n)) ?_
        refine r_istore (pc := 23) dX0_balance_23 (by decide) ?_
        refine r_iload (pc := 25) dX0_balance_25 rfl ?_
        refine r_iload (pc := 27) dX0_balance_27 rfl ?_
        refine r_aload_n (pc := 29) dX0_balance_29 rfl ?_
        refine r_getI (pc := 30) dX0_balance_30 frX0_33 (by assumption) ?_
        refine r_imul (pc := 33) dX0_balance_33 ?_
        refine r_iload_n (pc := 34) dX0_balance_34 rfl ?_
        refine r_imul (pc := 35) dX0_balance_35 ?_
        refine r_bipush (pc := 36) dX0_balance_36 (by decide) ?_
        refine r_idiv (pc := 38) dX0_balance_38 (by omega) (by omega) (by omega) (by omega) ?_
        refine r_iadd (pc := 39) dX0_balance_39 ?_
        generalize hDD : I (b + 3) n + I (b + 3) n * I b 0 * w / 100 = D at *
        refine r_istore (pc := 40) dX0_balance_40 (by decide) ?_
        refine r_aload_n (pc := 42) dX0_balance_42 rfl ?_
        refine r_getA (pc := 43) dX0_balance_43 frX0_15 (by assumption) (by assumption) ?_
        refine r_iload (pc := 46) dX0_balance_46 rfl ?_
        refine i_SN2ix (pc := 48) okX11_at staX11_at nwX0_54 dX0_balance_48 (by decide) (Nat.le_of_ble_eq_true rfl) (sX11_at (n := 8) (j := n)) ?_
        refine r_iload_n (pc := 51) dX0_balance_51 rfl ?_
        refine r_icmp_ne (pc := 52) 60 dX0_balance_52 (by decide) (by omega) (by omega) (fun h52 => ?_) (fun h52 => ?_)
        · skip
          refine r_aload_n (pc := 60) dX0_balance_60 rfl ?_
          refine r_getA (pc := 61) dX0_balance_61 frX0_9 (by assumption) (by assumption) ?_
          refine r_iload (pc := 64) dX0_balance_64 rfl ?_
          refine i_SN2ix (pc := 66) okX11_at staX11_at nwX0_54 dX0_balance_66 (by decide) (Nat.le_of_ble_eq_true rfl) (sX11_at (n := 8) (j := n)) ?_
          refine r_iload_n (pc := 69) dX0_balance_69 rfl ?_
          refine r_icmp_ne (pc := 70) 78 dX0_balance_70 (by decide) (by omega) (by omega) (fun h70 => ?_) (fun h70 => ?_)
          · skip
            refine r_iinc (pc := 78) dX0_balance_78 rfl ?_
            refine r_goto (pc := 81) 5 dX0_balance_81 (by decide) ?_
            refine ih (d - 1) (by omega) (n + 1) _ _ _ _ (by omega) (by omega) ?_
            rw [balB, hdd, ← ey, ← el, hk]
            (repeat' split) <;> omega
          · skip
            refine r_iload_n (pc := 73) dX0_balance_73 rfl ?_
            refine r_iload (pc := 74) dX0_balance_74 rfl ?_
            refine r_isub (pc := 76) dX0_balance_76 ?_
            refine r_istore_n (pc := 77) dX0_balance_77 (by decide) ?_
            refine r_iinc (pc := 78) dX0_balance_78 rfl ?_
            refine r_goto (pc := 81) 5 dX0_balance_81 (by decide) ?_
            refine ih (d - 1) (by omega) (n + 1) _ _ _ _ (by omega) (by omega) ?_
            rw [balB, hdd, ← ey, ← el, hk]
            (repeat' split) <;> omega
        · skip
          refine r_iload_n (pc := 55) dX0_balance_55 rfl ?_
          refine r_iload (pc := 56) dX0_balance_56 rfl ?_
          refine r_iadd (pc := 58) dX0_balance_58 ?_
          refine r_istore_n (pc := 59) dX0_balance_59 (by decide) ?_
          refine r_aload_n (pc := 60) dX0_balance_60 rfl ?_
          refine r_getA (pc := 61) dX0_balance_61 frX0_9 (by assumption) (by assumption) ?_
          refine r_iload (pc := 64) dX0_balance_64 rfl ?_
          refine i_SN2ix (pc := 66) okX11_at staX11_at nwX0_54 dX0_balance_66 (by decide) (Nat.le_of_ble_eq_true rfl) (sX11_at (n := 8) (j := n)) ?_
          refine r_iload_n (pc := 69) dX0_balance_69 rfl ?_
          refine r_icmp_ne (pc := 70) 78 dX0_balance_70 (by decide) (by omega) (by omega) (fun h70 => ?_) (fun h70 => ?_)
          · skip
            refine r_iinc (pc := 78) dX0_balance_78 rfl ?_
            refine r_goto (pc := 81) 5 dX0_balance_81 (by decide) ?_
            refine ih (d - 1) (by omega) (n + 1) _ _ _ _ (by omega) (by omega) ?_
            rw [balB, hdd, ← ey, ← el, hk]
            (repeat' split) <;> omega
          · skip
            refine r_iload_n (pc := 73) dX0_balance_73 rfl ?_
            refine r_iload (pc := 74) dX0_balance_74 rfl ?_
            refine r_isub (pc := 76) dX0_balance_76 ?_
            refine r_istore_n (pc := 77) dX0_balance_77 (by decide) ?_
            refine r_iinc (pc := 78) dX0_balance_78 rfl ?_
            refine r_goto (pc := 81) 5 dX0_balance_81 (by decide) ?_
            refine ih (d - 1) (by omega) (n + 1) _ _ _ _ (by omega) (by omega) ?_
            rw [balB, hdd, ← ey, ← el, hk]
            (repeat' split) <;> omega
  refine r_iconst (pc := 0) dX0_balance_0 ?_
  refine r_istore_n (pc := 1) dX0_balance_1 (by decide) ?_
  refine r_iconst (pc := 2) dX0_balance_2 ?_
  refine r_istore (pc := 3) dX0_balance_3 (by decide) ?_
  exact loop (B 33).toNat 0 _ _ _ _ (by omega) (by omega) rfl


