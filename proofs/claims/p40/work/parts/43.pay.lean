/-! the ways in all; the fewest payments -/
def ctz (s : Nat) : Nat := if s % 2 = 1 then 0 else if s / 2 % 2 = 1 then 1 else if s / 4 % 2 = 1 then 2 else if s / 8 % 2 = 1 then 3 else if s / 16 % 2 = 1 then 4 else 5
theorem ctz_le (s : Nat) : ctz s ≤ 5 := by unfold ctz; (repeat' split) <;> omega
theorem ctz_w : ∀ s : Fin 64, 1 ≤ s.val → b_and (b_xor (s.val : Int) (-1)) ((s.val : Int) - 1) = ((2 ^ ctz s.val - 1 : Nat) : Int) := by decide +kernel
theorem us_tab : ∀ w : Fin 64, b_ushr (w.val : Int) 1 = ((w.val / 2 : Nat) : Int) ∧ b_ushr (w.val : Int) 2 = ((w.val / 4 : Nat) : Int) ∧ b_ushr (w.val : Int) 4 = ((w.val / 16 : Nat) : Int) ∧ b_and (w.val : Int) 32 = ((w.val / 32 * 32 : Nat) : Int) := by decide +kernel
theorem ctz_v {s w : Nat} (h : w = 2 ^ ctz s - 1) : (w = 0 ∧ ctz s = 0) ∨ (w = 1 ∧ ctz s = 1) ∨ (w = 3 ∧ ctz s = 2) ∨ (w = 7 ∧ ctz s = 3) ∨ (w = 15 ∧ ctz s = 4) ∨ (w = 31 ∧ ctz s = 5) := by
  have h5 := ctz_le s
  generalize ctz s = c at *
  rcases (show c = 0 ∨ c = 1 ∨ c = 2 ∨ c = 3 ∨ c = 4 ∨ c = 5 by omega) with rfl | rfl | rfl | rfl | rfl | rfl <;> omega
theorem sCtz {G : WG} {C : CF} {I : MI} {P : MP} {L : ML} {x : Int} {s : Nat} (hx : x = (s : Int) := by first | rfl | omega) (h1 : 1 ≤ s := by omega) (h64 : s < 64 := by omega) : SJ6_numberOfTrailingZeros_0f7a4 G [.int (zI x)] C I P L (NI C (XI (ctz s) I P L)) := by
  subst hx
  have hw := ctz_w ⟨s, h64⟩ h1
  obtain ⟨w, hw2⟩ : ∃ w, w = 2 ^ ctz s - 1 := ⟨_, rfl⟩
  rw [← hw2] at hw
  have hv := ctz_v hw2
  have u := us_tab ⟨w, by omega⟩
  have u2' := us_tab ⟨w / 4, by omega⟩
  have u3 := us_tab ⟨w / 16, by omega⟩
  have u4 := us_tab ⟨w / 16 / 4, by omega⟩
  simp only at hw u u2' u3 u4
  generalize hc : ctz s = c at *
  refine en_I (by decide +kernel) (Nat.le_of_ble_eq_true rfl) ?_
  change Wd _ _ _ _ _ _ _ _ 0 [some _, none] [] _ _ _ _
  refine r_iload_n (pc := 0) dJ6_numberOfTrailingZeros_0f7a4_0 rfl ?_
  refine r_iconst (pc := 1) dJ6_numberOfTrailingZeros_0f7a4_1 ?_
  refine r_ixor (pc := 2) dJ6_numberOfTrailingZeros_0f7a4_2 ?_
  refine r_iload_n (pc := 3) dJ6_numberOfTrailingZeros_0f7a4_3 rfl ?_
  refine r_iconst (pc := 4) dJ6_numberOfTrailingZeros_0f7a4_4 ?_
  refine r_isub (pc := 5) dJ6_numberOfTrailingZeros_0f7a4_5 ?_
  refine r_iand (pc := 6) dJ6_numberOfTrailingZeros_0f7a4_6 ?_
  rw [hw]
  refine r_istore_n (pc := 7) dJ6_numberOfTrailingZeros_0f7a4_7 (by decide) ?_
  refine r_iload_n (pc := 8) dJ6_numberOfTrailingZeros_0f7a4_8 rfl ?_
  refine r_if_gt (pc := 9) 17 dJ6_numberOfTrailingZeros_0f7a4_9 (by decide) (by omega) (fun h9 => ?_) (fun h9 => ?_)
  · skip
    refine r_iconst (pc := 17) dJ6_numberOfTrailingZeros_0f7a4_17 ?_
    refine r_istore_n (pc := 18) dJ6_numberOfTrailingZeros_0f7a4_18 (by decide) ?_
    refine r_iload_n (pc := 19) dJ6_numberOfTrailingZeros_0f7a4_19 rfl ?_
    refine r_ldc_w (v := (65536 : Int)) (pc := 20) dJ6_numberOfTrailingZeros_0f7a4_20 kcJ6_264 ?_
    refine r_icmp_le (pc := 23) 34 dJ6_numberOfTrailingZeros_0f7a4_23 (by decide) (by omega) (by omega) (fun h23 => ?_) (fun h23 => ?_)
    · skip
      refine r_iload_n (pc := 34) dJ6_numberOfTrailingZeros_0f7a4_34 rfl ?_
      refine r_sipush (pc := 35) dJ6_numberOfTrailingZeros_0f7a4_35 (by decide) ?_
      refine r_icmp_le (pc := 38) 49 dJ6_numberOfTrailingZeros_0f7a4_38 (by decide) (by omega) (by omega) (fun h38 => ?_) (fun h38 => ?_)
      · skip
        refine r_iload_n (pc := 49) dJ6_numberOfTrailingZeros_0f7a4_49 rfl ?_
        refine r_bipush (pc := 50) dJ6_numberOfTrailingZeros_0f7a4_50 (by decide) ?_
        refine r_icmp_le (pc := 52) 62 dJ6_numberOfTrailingZeros_0f7a4_52 (by decide) (by omega) (by omega) (fun h52 => ?_) (fun h52 => ?_)
        · skip
          refine r_iload_n (pc := 62) dJ6_numberOfTrailingZeros_0f7a4_62 rfl ?_
          refine r_iconst (pc := 63) dJ6_numberOfTrailingZeros_0f7a4_63 ?_
          refine r_icmp_le (pc := 64) 74 dJ6_numberOfTrailingZeros_0f7a4_64 (by decide) (by omega) (by omega) (fun h64 => ?_) (fun h64 => ?_)
          · skip
            refine r_iload_n (pc := 74) dJ6_numberOfTrailingZeros_0f7a4_74 rfl ?_
            refine r_iload_n (pc := 75) dJ6_numberOfTrailingZeros_0f7a4_75 rfl ?_
            refine r_iconst (pc := 76) dJ6_numberOfTrailingZeros_0f7a4_76 ?_
            refine r_iushr (pc := 77) dJ6_numberOfTrailingZeros_0f7a4_77 ?_
            refine r_iadd (pc := 78) dJ6_numberOfTrailingZeros_0f7a4_78 ?_
            refine t_iret (pc := 79) dJ6_numberOfTrailingZeros_0f7a4_79 rfl rfl ?_
            first
            | exact ⟨by rw [u.1]; omega, rfl, rfl, rfl⟩
            | exact ⟨by rw [u3.1]; omega, rfl, rfl, rfl⟩
            | exact ⟨by rw [u.2.1, u2'.1]; omega, rfl, rfl, rfl⟩
            | (exfalso; omega)
          · skip
            refine r_iinc (pc := 67) dJ6_numberOfTrailingZeros_0f7a4_67 rfl ?_
            refine r_iload_n (pc := 70) dJ6_numberOfTrailingZeros_0f7a4_70 rfl ?_
            refine r_iconst (pc := 71) dJ6_numberOfTrailingZeros_0f7a4_71 ?_
            refine r_iushr (pc := 72) dJ6_numberOfTrailingZeros_0f7a4_72 ?_
            refine r_istore_n (pc := 73) dJ6_numberOfTrailingZeros_0f7a4_73 (by decide) ?_
            refine r_iload_n (pc := 74) dJ6_numberOfTrailingZeros_0f7a4_74 rfl ?_
            refine r_iload_n (pc := 75) dJ6_numberOfTrailingZeros_0f7a4_75 rfl ?_
            refine r_iconst (pc := 76) dJ6_numberOfTrailingZeros_0f7a4_76 ?_
            refine r_iushr (pc := 77) dJ6_numberOfTrailingZeros_0f7a4_77 ?_
            refine r_iadd (pc := 78) dJ6_numberOfTrailingZeros_0f7a4_78 ?_
            refine t_iret (pc := 79) dJ6_numberOfTrailingZeros_0f7a4_79 rfl rfl ?_
            first
            | exact ⟨by rw [u.1]; omega, rfl, rfl, rfl⟩
            | exact ⟨by rw [u3.1]; omega, rfl, rfl, rfl⟩
            | exact ⟨by rw [u.2.1, u2'.1]; omega, rfl, rfl, rfl⟩
            | (exfalso; omega)
        · skip
          refine r_iinc (pc := 55) dJ6_numberOfTrailingZeros_0f7a4_55 rfl ?_
          refine r_iload_n (pc := 58) dJ6_numberOfTrailingZeros_0f7a4_58 rfl ?_
          refine r_iconst (pc := 59) dJ6_numberOfTrailingZeros_0f7a4_59 ?_
          refine r_iushr (pc := 60) dJ6_numberOfTrailingZeros_0f7a4_60 ?_
          rw [u.2.2.1]
          refine r_istore_n (pc := 61) dJ6_numberOfTrailingZeros_0f7a4_61 (by decide) ?_
          refine r_iload_n (pc := 62) dJ6_numberOfTrailingZeros_0f7a4_62 rfl ?_
          refine r_iconst (pc := 63) dJ6_numberOfTrailingZeros_0f7a4_63 ?_
          refine r_icmp_le (pc := 64) 74 dJ6_numberOfTrailingZeros_0f7a4_64 (by decide) (by omega) (by omega) (fun h64 => ?_) (fun h64 => ?_)
          · skip
            refine r_iload_n (pc := 74) dJ6_numberOfTrailingZeros_0f7a4_74 rfl ?_
            refine r_iload_n (pc := 75) dJ6_numberOfTrailingZeros_0f7a4_75 rfl ?_
            refine r_iconst (pc := 76) dJ6_numberOfTrailingZeros_0f7a4_76 ?_
            refine r_iushr (pc := 77) dJ6_numberOfTrailingZeros_0f7a4_77 ?_
            refine r_iadd (pc := 78) dJ6_numberOfTrailingZeros_0f7a4_78 ?_
            refine t_iret (pc := 79) dJ6_numberOfTrailingZeros_0f7a4_79 rfl rfl ?_
            first
            | exact ⟨by rw [u.1]; omega, rfl, rfl, rfl⟩
            | exact ⟨by rw [u3.1]; omega, rfl, rfl, rfl⟩
            | exact ⟨by rw [u.2.1, u2'.1]; omega, rfl, rfl, rfl⟩
            | (exfalso; omega)
          · skip
            refine r_iinc (pc := 67) dJ6_numberOfTrailingZeros_0f7a4_67 rfl ?_
            refine r_iload_n (pc := 70) dJ6_numberOfTrailingZeros_0f7a4_70 rfl ?_
            refine r_iconst (pc := 71) dJ6_numberOfTrailingZeros_0f7a4_71 ?_
            refine r_iushr (pc := 72) dJ6_numberOfTrailingZeros_0f7a4_72 ?_
            refine r_istore_n (pc := 73) dJ6_numberOfTrailingZeros_0f7a4_73 (by decide) ?_
            refine r_iload_n (pc := 74) dJ6_numberOfTrailingZeros_0f7a4_74 rfl ?_
            refine r_iload_n (pc := 75) dJ6_numberOfTrailingZeros_0f7a4_75 rfl ?_
            refine r_iconst (pc := 76) dJ6_numberOfTrailingZeros_0f7a4_76 ?_
            refine r_iushr (pc := 77) dJ6_numberOfTrailingZeros_0f7a4_77 ?_
            refine r_iadd (pc := 78) dJ6_numberOfTrailingZeros_0f7a4_78 ?_
            refine t_iret (pc := 79) dJ6_numberOfTrailingZeros_0f7a4_79 rfl rfl ?_
            first
            | exact ⟨by rw [u.1]; omega, rfl, rfl, rfl⟩
            | exact ⟨by rw [u3.1]; omega, rfl, rfl, rfl⟩
            | exact ⟨by rw [u.2.1, u2'.1]; omega, rfl, rfl, rfl⟩
            | (exfalso; omega)
      · exfalso; omega
    · exfalso; omega
  · skip
    refine r_iload_n (pc := 12) dJ6_numberOfTrailingZeros_0f7a4_12 rfl ?_
    refine r_bipush (pc := 13) dJ6_numberOfTrailingZeros_0f7a4_13 (by decide) ?_
    refine r_iand (pc := 15) dJ6_numberOfTrailingZeros_0f7a4_15 ?_
    rw [u.2.2.2]
    refine t_iret (pc := 16) dJ6_numberOfTrailingZeros_0f7a4_16 rfl rfl ?_
    exact ⟨by omega, rfl, rfl, rfl⟩
theorem bit_tab : ∀ s : Fin 64, ∀ f : Fin 6, 1 ≤ s.val → ((s.val &&& (s.val - 1)).testBit f.val = (s.val.testBit f.val && !(f.val == ctz s.val))) ∧ s.val.testBit (ctz s.val) = true ∧ (s.val &&& (s.val - 1)) < s.val ∧ (s.val.testBit f.val = true → (s.val ^^^ 2 ^ f.val) < s.val) := by decide +kernel
def sumS (net : Nat → Int) (s : Nat) : Int := (if s.testBit 0 then net 0 else 0) + (if s.testBit 1 then net 1 else 0) + (if s.testBit 2 then net 2 else 0) + (if s.testBit 3 then net 3 else 0) + (if s.testBit 4 then net 4 else 0) + (if s.testBit 5 then net 5 else 0)
theorem sumS_low (net : Nat → Int) {s : Nat} (h1 : 1 ≤ s) (h : s < 64) : sumS net s = sumS net (s &&& (s - 1)) + net (ctz s) := by
  have b0 : (s &&& (s - 1)).testBit 0 = (s.testBit 0 && !(0 == ctz s)) := (bit_tab ⟨s, h⟩ ⟨0, by decide⟩ h1).1
  have b1 : (s &&& (s - 1)).testBit 1 = (s.testBit 1 && !(1 == ctz s)) := (bit_tab ⟨s, h⟩ ⟨1, by decide⟩ h1).1
  have b2 : (s &&& (s - 1)).testBit 2 = (s.testBit 2 && !(2 == ctz s)) := (bit_tab ⟨s, h⟩ ⟨2, by decide⟩ h1).1
  have b3 : (s &&& (s - 1)).testBit 3 = (s.testBit 3 && !(3 == ctz s)) := (bit_tab ⟨s, h⟩ ⟨3, by decide⟩ h1).1
  have b4 : (s &&& (s - 1)).testBit 4 = (s.testBit 4 && !(4 == ctz s)) := (bit_tab ⟨s, h⟩ ⟨4, by decide⟩ h1).1
  have b5 : (s &&& (s - 1)).testBit 5 = (s.testBit 5 && !(5 == ctz s)) := (bit_tab ⟨s, h⟩ ⟨5, by decide⟩ h1).1
  have bc : s.testBit (ctz s) = true := (bit_tab ⟨s, h⟩ ⟨0, by decide⟩ h1).2.1
  have h5 := ctz_le s
  unfold sumS
  rw [b0, b1, b2, b3, b4, b5]
  generalize ctz s = c at *
  rcases (show c = 0 ∨ c = 1 ∨ c = 2 ∨ c = 3 ∨ c = 4 ∨ c = 5 by omega) with rfl | rfl | rfl | rfl | rfl | rfl <;> (simp only [bc, eq_self, Nat.reduceBEq, Bool.not_false, Bool.not_true, Bool.and_true, Bool.and_false, if_true, Bool.false_eq_true, if_false]; omega)
def mgb (tb : Nat → Int) (s : Nat) : Nat → Int
  | 0 => 0
  | f + 1 => if s.testBit f = true then max (mgb tb s f) (tb (s ^^^ 2 ^ f)) else mgb tb s f
def tab (net : Nat → Int) (size : Nat) : Nat → Nat → Int
  | 0 => fun _ => 0
  | s + 1 => up (tab net size s) (s + 1) (mgb (tab net size s) (s + 1) size + (if sumS net (s + 1) = 0 then 1 else 0))
theorem tab_lt (net : Nat → Int) (size : Nat) : ∀ s j, s < j → tab net size s j = 0 := by
  intro s
  induction s with
  | zero => intro j _; rfl
  | succ s ih => intro j hj; unfold tab; rw [up_n _ _ (by omega)]; exact ih j (by omega)
theorem mgb_in {tb : Nat → Int} {s b : Nat} (h : ∀ j, j < s → 0 ≤ tb j ∧ tb j ≤ b) (hs : 1 ≤ s ∧ s < 64) : ∀ f, f ≤ 6 → 0 ≤ mgb tb s f ∧ mgb tb s f ≤ b := by
  intro f
  induction f with
  | zero => intro _; simp [mgb]
  | succ f ih =>
    intro hf
    have h1 := ih (by omega)
    unfold mgb
    split
    · next hb =>
      have := h _ ((bit_tab ⟨s, hs.2⟩ ⟨f, by omega⟩ hs.1).2.2.2 hb)
      simp only at this
      omega
    · exact h1
theorem tab_in (net : Nat → Int) {size : Nat} (hz : size ≤ 6) : ∀ s, s < 64 → ∀ j, 0 ≤ tab net size s j ∧ tab net size s j ≤ s := by
  intro s
  induction s with
  | zero => intro _ j; simp [tab]
  | succ s ih =>
    intro hs j
    have h1 := mgb_in (tb := tab net size s) (s := s + 1) (b := s) (fun j _ => ih (by omega) j) (by omega) size hz
    have h2 := ih (by omega) j
    unfold tab
    rw [up_app]
    split
    · split <;> omega
    · omega
theorem sX10_mostGroupsBelow {G : WG} {C : CF} {I : MI} {P : MP} {L : ML} {t s z : Nat} {x y : Int} (ht : TrialsL G C P t := by assumption) (hx : x = (s : Int) := by first | rfl | omega) (hy : y = (z : Int) := by first | rfl | omega) (hs : 1 ≤ s ∧ s < 64 := by omega) (hz : z ≤ 6 := by omega) (hb : ∀ j, j < s → 0 ≤ I (t + 5) j ∧ I (t + 5) j ≤ (s : Int) := by assumption) : SX10_mostGroupsBelow G [.ref t, .int (zI x), .int (zI y)] C I P L (NI C (XI (mgb (I (t + 5)) s z) I P L)) := by
  subst hx hy
  obtain ⟨h0, hK, hK1, hK2, hK3, hK4, hK5, hP0, hP1, hP2, hP3, hP4, hP5, hf, hp8⟩ := id ht
  generalize hq : XI (mgb (I (t + 5)) s z) I P L = q
  refine en_I (by decide +kernel) (Nat.le_of_ble_eq_true rfl) ?_
  change Wd _ _ _ _ _ _ _ _ 0 [some _, some _, some _, none, none] [] _ _ _ _
  have loop : ∀ (d f : Nat) (i k : Int), f + d = z → i = (f : Int) → k = mgb (I (t + 5)) s f → Wd G yX10_mostGroupsBelow cX10_mostGroupsBelow 5 (some .int) 1 (C.2.1 + 0, C.2.2 + 0) (NI C q) 5 [some (.ref t), some (.int (zI (s : Int))), some (.int (zI (z : Int))), some (.int (zI k)), some (.int (zI i))] [] C I P L := by
    intro d
    induction d using Nat.strongRecOn with
    | _ d ih =>
      intro f i k hd hi hk
      have hkr := mgb_in (tb := I (t + 5)) (s := s) (b := s) hb hs f (by omega)
      refine r_iload (pc := 5) dX10_mostGroupsBelow_5 rfl ?_
      refine r_iload_n (pc := 7) dX10_mostGroupsBelow_7 rfl ?_
      refine r_icmp_ge (pc := 8) 44 dX10_mostGroupsBelow_8 (by decide) (by first | omega | exact iR_b _) (by first | omega | exact iR_b _) (fun h8 => ?_) (fun h8 => ?_)
      · skip
        refine r_iload_n (pc := 44) dX10_mostGroupsBelow_44 rfl ?_
        refine t_iret (pc := 45) dX10_mostGroupsBelow_45 rfl rfl ?_
        subst hq; exact ⟨by rw [hk, show f = z by omega], rfl, rfl, rfl⟩
      · skip
        have hbit : b_and (b_shr (s : Int) i) 1 = if s.testBit f then 1 else 0 := by rw [hi]; exact b_bit (by omega) (by omega)
        have hsh : b_shl 1 i = ((2 ^ f : Nat) : Int) := by rw [hi]; exact b_shl1 (by omega)
        have hxo : b_xor (s : Int) ((2 ^ f : Nat) : Int) = ((s ^^^ 2 ^ f : Nat) : Int) := b_xorN (k := 6) (by omega) (Nat.pow_lt_pow_right (by decide) (by omega)) (by decide)
        have hlt := (bit_tab ⟨s, hs.2⟩ ⟨f, by omega⟩ hs.1).2.2.2
        simp only at hlt
        refine r_iload_n (pc := 11) dX10_mostGroupsBelow_11 rfl ?_
        refine r_iload (pc := 12) dX10_mostGroupsBelow_12 rfl ?_
        refine r_ishr (pc := 14) dX10_mostGroupsBelow_14 ?_
        refine r_iconst (pc := 15) dX10_mostGroupsBelow_15 ?_
        refine r_iand (pc := 16) dX10_mostGroupsBelow_16 ?_
        rw [hbit]
        refine r_if_eq (pc := 17) 38 dX10_mostGroupsBelow_17 (by decide) (by first | omega | exact iR_b _) (fun h17 => ?_) (fun h17 => ?_)
        · skip
          refine r_iinc (pc := 38) dX10_mostGroupsBelow_38 rfl ?_
          refine r_goto (pc := 41) 5 dX10_mostGroupsBelow_41 (by decide) ?_
          exact ih (d - 1) (by omega) (f + 1) _ _ (by omega) (by omega) (by rw [mgb, if_neg (by intro hz; rw [hz] at h17; simp at h17), hk])
        · skip
          have htb : s.testBit f = true := by cases hz : s.testBit f <;> simp_all
          have hlt2 := hlt htb
          have hbb := hb _ hlt2
          generalize hJ : s ^^^ 2 ^ f = J at *
          refine r_iload_n (pc := 20) dX10_mostGroupsBelow_20 rfl ?_
          refine r_aload_n (pc := 21) dX10_mostGroupsBelow_21 rfl ?_
          refine r_getA (pc := 22) dX10_mostGroupsBelow_22 frX10_27 (by assumption) (by assumption) ?_
          refine r_iload_n (pc := 25) dX10_mostGroupsBelow_25 rfl ?_
          refine r_iconst (pc := 26) dX10_mostGroupsBelow_26 ?_
          refine r_iload (pc := 27) dX10_mostGroupsBelow_27 rfl ?_
          refine r_ishl (pc := 29) dX10_mostGroupsBelow_29 ?_
          rw [hsh]
          refine r_ixor (pc := 30) dX10_mostGroupsBelow_30 ?_
          rw [hxo]
          refine i_SN2ix (pc := 31) okX11_at staX11_at nwX10_45 dX10_mostGroupsBelow_31 (by decide) (Nat.le_of_ble_eq_true rfl) (sX11_at (n := 64) (j := J)) ?_
          refine r_max (pc := 34) q649 stamthmax inimth codmthmax (by decide) (Nat.le_of_ble_eq_true rfl) dX10_mostGroupsBelow_34 (by first | omega | exact iR_b _) (by first | omega | exact iR_b _) ?_
          refine r_istore_n (pc := 37) dX10_mostGroupsBelow_37 (by decide) ?_
          refine r_iinc (pc := 38) dX10_mostGroupsBelow_38 rfl ?_
          refine r_goto (pc := 41) 5 dX10_mostGroupsBelow_41 (by decide) ?_
          exact ih (d - 1) (by omega) (f + 1) _ _ (by omega) (by omega) (by rw [mgb, if_pos htb, hJ, hk])
  refine r_iconst (pc := 0) dX10_mostGroupsBelow_0 ?_
  refine r_istore_n (pc := 1) dX10_mostGroupsBelow_1 (by decide) ?_
  refine r_iconst (pc := 2) dX10_mostGroupsBelow_2 ?_
  refine r_istore (pc := 3) dX10_mostGroupsBelow_3 (by decide) ?_
  exact loop z 0 _ _ (by omega) (by omega) rfl


