/-! the reference: counts, digest, images, years gone by and undone -/
theorem sums_st (B : Nat → Int) (h : Int) (a n : Nat) : sumsF B h a (n + 1) = 31 * sumsF B h a n + B (a + n) := rfl
theorem tal_st (F B : Nat → Int) (u n h : Int) (k : Nat) : talN F B u n h (k + 1) = 31 * talN F B u n h k + w32 (tallyS F B u n (k : Int)) := rfl
theorem FI_k {F F' : Nat → Int} {Y : Int} (h : FI F Y) (e : ∀ k, k < 31 → F' k = F k) : FI F' Y := by
  obtain ⟨h0, h1, h2, h3, h4, h5, h6, hf⟩ := h
  refine ⟨by rw [e 0 (by omega)]; exact h0, by rw [e 1 (by omega)]; exact h1, by rw [e 2 (by omega)]; exact h2, by rw [e 3 (by omega)]; exact h3, by rw [e 4 (by omega)]; exact h4, by rw [e 5 (by omega)]; exact h5, by rw [e 6 (by omega)]; exact h6, fun f hff => ?_⟩
  rw [e _ (by omega), e _ (by omega), e _ (by omega), e _ (by omega), e 6 (by omega)]
  exact hf f hff
theorem BI_k {B B' : Nat → Int} (h : BI B) (e : ∀ k, 33 ≤ k → k < 115 → B' k = B k) : BI B' := by
  obtain ⟨b0, b1, b2, b3, b4, b5, b6⟩ := h
  refine ⟨by rw [e _ (by omega) (by omega)]; exact b0, by rw [e _ (by omega) (by omega)]; exact b1, by rw [e _ (by omega) (by omega)]; exact b2, by rw [e _ (by omega) (by omega)]; exact b3, fun d hd => ?_, fun r hr => ?_, fun i hi => ?_⟩
  · rw [e _ (by omega) (by omega), e _ (by omega) (by omega), e _ (by omega) (by omega)]; exact b4 d hd
  · rw [e _ (by omega) (by omega), e _ (by omega) (by omega), e _ (by omega) (by omega)]; exact b5 r hr
  · rw [e _ (by omega) (by omega)]; exact b6 i hi
def sftR (N : Nat → Int) (f : Nat) : Nat → Int := fun x => if 116 ≤ x ∧ x < 116 + f then N (x + 20) else N x
def lay1 (N : Nat → Int) (a f : Nat) : Nat → Int := fun x => if a ≤ x ∧ x < a + f then N (2 + (x - a)) else N x
def lay2 (N : Nat → Int) (a f : Nat) : Nat → Int := fun x => if a + 4 ≤ x ∧ x < a + 4 + f then N (8 + 4 * (x - a - 4)) else if a + 10 ≤ x ∧ x < a + 10 + f then N (9 + 4 * (x - a - 10)) else N x
def layR (N : Nat → Int) (a : Nat) (u : Int) : Nat → Int := up (up (up (up (up (lay2 (lay1 N a 4) a 6) (a + 16) (N 31)) (a + 17) (N 32)) (a + 18) (N 1)) (a + 19) (N 6)) 115 (u + 1)
def pastR (N : Nat → Int) : Nat → Int := if N 115 = 6 then layR (up (sftR N 100) 115 5) 216 5 else layR N (116 + 20 * (N 115).toNat) (N 115)
theorem layR_lo (N : Nat → Int) {a : Nat} (u : Int) (ha : 116 ≤ a) {k : Nat} (hk : k < 115) : layR N a u k = N k := by
  unfold layR lay2 lay1
  rw [up_n _ _ (by omega), up_n _ _ (by omega), up_n _ _ (by omega), up_n _ _ (by omega), up_n _ _ (by omega), if_neg (by omega), if_neg (by omega), if_neg (by omega)]
theorem pastR_lo (N : Nat → Int) {k : Nat} (hk : k < 115) : pastR N k = N k := by
  unfold pastR
  split
  · rw [layR_lo _ _ (by omega) hk, up_n _ _ (by omega)]
    unfold sftR; rw [if_neg (by omega)]
  · exact layR_lo _ _ (by omega) hk
/-- the farm that may be gone back to, out of one past row -/
def pF (N : Nat → Int) (a : Nat) : Nat → Int := fun k => if k = 0 then N 0 else if k = 1 then N (a + 18) else if 2 ≤ k ∧ k ≤ 5 then N (a + (k - 2)) else if k = 6 then N (a + 19) else if k = 31 then N (a + 16) else if k = 32 then N (a + 17) else if 7 ≤ k ∧ k < 31 ∧ k % 4 = 0 then N (a + 4 + (k - 8) / 4) else if 7 ≤ k ∧ k < 31 ∧ k % 4 = 1 then N (a + 10 + (k - 9) / 4) else 0
def undoR (N : Nat → Int) : Nat → Int := up (bakF N (pF N (116 + 20 * (N 115 - 1).toNat))) 115 (N 115 - 1)
section REF9
variable {G : WG} {C : CF} {I : MI} {P : MP} {L : ML} {m : Nat} {Y : Int}
theorem sX12_counted {w : Int} (hm : RfL G C P m := by assumption) (hw : 0 ≤ w ∧ w ≤ 13 := by omega) : SX12_counted G [.ref m, .int (zI w)] C I P L (NI C (XI (tallyS (I (m + 1)) (I (m + 1)) (I (m + 1) 115) (I m 11) w) I P L)) := by
  obtain ⟨hBm, hKm, hK1, hK2, hK3, hK4, hK5, hK6, hK7, hK8, hK9, hK10, hK11, hP0, hP1, hP2, hP3, hP6, hP7, hP8, hP9, hP10, hP16, hP17⟩ := id hm
  refine en_I (by decide +kernel) (Nat.le_of_ble_eq_true rfl) ?_
  change Wd _ _ _ _ _ _ _ _ 0 [some _, some _] [] _ _ _ _
  refine r_iload_n (pc := 0) dX12_counted_0 rfl ?_
  rcases (show w = 0 ∨ w = 1 ∨ w = 2 ∨ w = 3 ∨ w = 4 ∨ w = 5 ∨ w = 6 ∨ w = 7 ∨ w = 8 ∨ w = 9 ∨ w = 10 ∨ w = 11 ∨ w = 12 ∨ (w < 0 ∨ 12 < w) by omega) with h1 | h1 | h1 | h1 | h1 | h1 | h1 | h1 | h1 | h1 | h1 | h1 | h1 | h1
  · skip
    refine r_tsIn (pc := 1) 68 dX12_counted_1 (by omega) (by omega) (by omega) (by rw [h1]; rfl) (by decide) ?_
    refine r_aload_n (pc := 68) dX12_counted_68 rfl ?_
    refine r_getA (pc := 69) dX12_counted_69 frX12_7 (by assumption) (by assumption) ?_
    refine r_iload_n (pc := 72) dX12_counted_72 rfl ?_
    refine r_iald (j := w.toNat) (pc := 73) dX12_counted_73 (by assumption) (by omega) (by omega) (by omega) ?_
    refine t_iret (pc := 74) dX12_counted_74 rfl rfl ?_
    refine ⟨?_, rfl, rfl, rfl⟩
    unfold tallyS
    rw [if_neg (by omega), if_neg (by omega), if_neg (by omega), if_neg (by omega), if_neg (by omega), if_neg (by omega), if_neg (by omega)]
  · skip
    refine r_tsIn (pc := 1) 68 dX12_counted_1 (by omega) (by omega) (by omega) (by rw [h1]; rfl) (by decide) ?_
    refine r_aload_n (pc := 68) dX12_counted_68 rfl ?_
    refine r_getA (pc := 69) dX12_counted_69 frX12_7 (by assumption) (by assumption) ?_
    refine r_iload_n (pc := 72) dX12_counted_72 rfl ?_
    refine r_iald (j := w.toNat) (pc := 73) dX12_counted_73 (by assumption) (by omega) (by omega) (by omega) ?_
    refine t_iret (pc := 74) dX12_counted_74 rfl rfl ?_
    refine ⟨?_, rfl, rfl, rfl⟩
    unfold tallyS
    rw [if_neg (by omega), if_neg (by omega), if_neg (by omega), if_neg (by omega), if_neg (by omega), if_neg (by omega), if_neg (by omega)]
  · skip
    refine r_tsIn (pc := 1) 68 dX12_counted_1 (by omega) (by omega) (by omega) (by rw [h1]; rfl) (by decide) ?_
    refine r_aload_n (pc := 68) dX12_counted_68 rfl ?_
    refine r_getA (pc := 69) dX12_counted_69 frX12_7 (by assumption) (by assumption) ?_
    refine r_iload_n (pc := 72) dX12_counted_72 rfl ?_
    refine r_iald (j := w.toNat) (pc := 73) dX12_counted_73 (by assumption) (by omega) (by omega) (by omega) ?_
    refine t_iret (pc := 74) dX12_counted_74 rfl rfl ?_
    refine ⟨?_, rfl, rfl, rfl⟩
    unfold tallyS
    rw [if_neg (by omega), if_neg (by omega), if_neg (by omega), if_neg (by omega), if_neg (by omega), if_neg (by omega), if_neg (by omega)]
  · skip
    refine r_tsIn (pc := 1) 68 dX12_counted_1 (by omega) (by omega) (by omega) (by rw [h1]; rfl) (by decide) ?_
    refine r_aload_n (pc := 68) dX12_counted_68 rfl ?_
    refine r_getA (pc := 69) dX12_counted_69 frX12_7 (by assumption) (by assumption) ?_
    refine r_iload_n (pc := 72) dX12_counted_72 rfl ?_
    refine r_iald (j := w.toNat) (pc := 73) dX12_counted_73 (by assumption) (by omega) (by omega) (by omega) ?_
    refine t_iret (pc := 74) dX12_counted_74 rfl rfl ?_
    refine ⟨?_, rfl, rfl, rfl⟩
    unfold tallyS
    rw [if_neg (by omega), if_neg (by omega), if_neg (by omega), if_neg (by omega), if_neg (by omega), if_neg (by omega), if_neg (by omega)]
  · skip
    refine r_tsIn (pc := 1) 68 dX12_counted_1 (by omega) (by omega) (by omega) (by rw [h1]; rfl) (by decide) ?_
    refine r_aload_n (pc := 68) dX12_counted_68 rfl ?_
    refine r_getA (pc := 69) dX12_counted_69 frX12_7 (by assumption) (by assumption) ?_
    refine r_iload_n (pc := 72) dX12_counted_72 rfl ?_
    refine r_iald (j := w.toNat) (pc := 73) dX12_counted_73 (by assumption) (by omega) (by omega) (by omega) ?_
    refine t_iret (pc := 74) dX12_counted_74 rfl rfl ?_
    refine ⟨?_, rfl, rfl, rfl⟩
    unfold tallyS
    rw [if_neg (by omega), if_neg (by omega), if_neg (by omega), if_neg (by omega), if_neg (by omega), if_neg (by omega), if_neg (by omega)]
  · skip
    refine r_tsIn (pc := 1) 68 dX12_counted_1 (by omega) (by omega) (by omega) (by rw [h1]; rfl) (by decide) ?_
    refine r_aload_n (pc := 68) dX12_counted_68 rfl ?_
    refine r_getA (pc := 69) dX12_counted_69 frX12_7 (by assumption) (by assumption) ?_
    refine r_iload_n (pc := 72) dX12_counted_72 rfl ?_
    refine r_iald (j := w.toNat) (pc := 73) dX12_counted_73 (by assumption) (by omega) (by omega) (by omega) ?_
    refine t_iret (pc := 74) dX12_counted_74 rfl rfl ?_
    refine ⟨?_, rfl, rfl, rfl⟩
    unfold tallyS
    rw [if_neg (by omega), if_neg (by omega), if_neg (by omega), if_neg (by omega), if_neg (by omega), if_neg (by omega), if_neg (by omega)]
  · skip
    refine r_tsIn (pc := 1) 68 dX12_counted_1 (by omega) (by omega) (by omega) (by rw [h1]; rfl) (by decide) ?_
    refine r_aload_n (pc := 68) dX12_counted_68 rfl ?_
    refine r_getA (pc := 69) dX12_counted_69 frX12_7 (by assumption) (by assumption) ?_
    refine r_iload_n (pc := 72) dX12_counted_72 rfl ?_
    refine r_iald (j := w.toNat) (pc := 73) dX12_counted_73 (by assumption) (by omega) (by omega) (by omega) ?_
    refine t_iret (pc := 74) dX12_counted_74 rfl rfl ?_
    refine ⟨?_, rfl, rfl, rfl⟩
    unfold tallyS
    rw [if_neg (by omega), if_neg (by omega), if_neg (by omega), if_neg (by omega), if_neg (by omega), if_neg (by omega), if_neg (by omega)]
  · skip
    refine r_tsIn (pc := 1) 75 dX12_counted_1 (by omega) (by omega) (by omega) (by rw [h1]; rfl) (by decide) ?_
    refine r_aload_n (pc := 75) dX12_counted_75 rfl ?_
    refine r_getA (pc := 76) dX12_counted_76 frX12_7 (by assumption) (by assumption) ?_
    refine r_bipush (pc := 79) dX12_counted_79 (by decide) ?_
    refine r_iald (j := 33) (pc := 81) dX12_counted_81 (by assumption) rfl (by omega) (by omega) ?_
    refine t_iret (pc := 82) dX12_counted_82 rfl rfl ?_
    subst h1; exact ⟨rfl, rfl, rfl, rfl⟩
  · skip
    refine r_tsIn (pc := 1) 83 dX12_counted_1 (by omega) (by omega) (by omega) (by rw [h1]; rfl) (by decide) ?_
    refine r_aload_n (pc := 83) dX12_counted_83 rfl ?_
    refine r_getA (pc := 84) dX12_counted_84 frX12_7 (by assumption) (by assumption) ?_
    refine r_bipush (pc := 87) dX12_counted_87 (by decide) ?_
    refine r_iald (j := 59) (pc := 89) dX12_counted_89 (by assumption) rfl (by omega) (by omega) ?_
    refine t_iret (pc := 90) dX12_counted_90 rfl rfl ?_
    subst h1; exact ⟨rfl, rfl, rfl, rfl⟩
  · skip
    refine r_tsIn (pc := 1) 91 dX12_counted_1 (by omega) (by omega) (by omega) (by rw [h1]; rfl) (by decide) ?_
    refine r_aload_n (pc := 91) dX12_counted_91 rfl ?_
    refine r_getA (pc := 92) dX12_counted_92 frX12_7 (by assumption) (by assumption) ?_
    refine r_bipush (pc := 95) dX12_counted_95 (by decide) ?_
    refine r_iald (j := 90) (pc := 97) dX12_counted_97 (by assumption) rfl (by omega) (by omega) ?_
    refine t_iret (pc := 98) dX12_counted_98 rfl rfl ?_
    subst h1; exact ⟨rfl, rfl, rfl, rfl⟩
  · skip
    refine r_tsIn (pc := 1) 99 dX12_counted_1 (by omega) (by omega) (by omega) (by rw [h1]; rfl) (by decide) ?_
    refine r_aload_n (pc := 99) dX12_counted_99 rfl ?_
    refine r_getA (pc := 100) dX12_counted_100 frX12_7 (by assumption) (by assumption) ?_
    refine r_bipush (pc := 103) dX12_counted_103 (by decide) ?_
    refine r_iald (j := 31) (pc := 105) dX12_counted_105 (by assumption) rfl (by omega) (by omega) ?_
    refine t_iret (pc := 106) dX12_counted_106 rfl rfl ?_
    subst h1; exact ⟨rfl, rfl, rfl, rfl⟩
  · skip
    refine r_tsIn (pc := 1) 107 dX12_counted_1 (by omega) (by omega) (by omega) (by rw [h1]; rfl) (by decide) ?_
    refine r_aload_n (pc := 107) dX12_counted_107 rfl ?_
    refine r_getA (pc := 108) dX12_counted_108 frX12_7 (by assumption) (by assumption) ?_
    refine r_bipush (pc := 111) dX12_counted_111 (by decide) ?_
    refine r_iald (j := 32) (pc := 113) dX12_counted_113 (by assumption) rfl (by omega) (by omega) ?_
    refine t_iret (pc := 114) dX12_counted_114 rfl rfl ?_
    subst h1; exact ⟨rfl, rfl, rfl, rfl⟩
  · skip
    refine r_tsIn (pc := 1) 115 dX12_counted_1 (by omega) (by omega) (by omega) (by rw [h1]; rfl) (by decide) ?_
    refine r_aload_n (pc := 115) dX12_counted_115 rfl ?_
    refine r_getA (pc := 116) dX12_counted_116 frX12_7 (by assumption) (by assumption) ?_
    refine r_bipush (pc := 119) dX12_counted_119 (by decide) ?_
    refine r_iald (j := 115) (pc := 121) dX12_counted_121 (by assumption) rfl (by omega) (by omega) ?_
    refine t_iret (pc := 122) dX12_counted_122 rfl rfl ?_
    subst h1; exact ⟨rfl, rfl, rfl, rfl⟩
  · skip
    refine r_tsOut (pc := 1) 123 dX12_counted_1 (by omega) h1 (by decide) ?_
    refine r_aload_n (pc := 123) dX12_counted_123 rfl ?_
    refine r_getI (pc := 124) dX12_counted_124 frX12_239 (by assumption) ?_
    refine t_iret (pc := 127) dX12_counted_127 rfl rfl ?_
    refine ⟨?_, rfl, rfl, rfl⟩
    unfold tallyS
    rw [if_neg (by omega), if_neg (by omega), if_neg (by omega), if_neg (by omega), if_neg (by omega), if_neg (by omega), if_pos (by omega)]
def countM (T : RS) (w : Int) : Int × RS := if 0 ≤ w ∧ w ≤ 13 then (tallyS T.1 T.1 (T.1 115) T.2.2.2.2.2.1 w, T) else (-2, zB T)
theorem sX12_count {w : Int} (hm : RfL G C P m := by assumption) (hw : iR w := by omega) : SX12_count G [.ref m, .int (zI w)] C I P L (NI C (QZ m (countM (rdM m I L) w).1 (countM (rdM m I L) w).2 P)) := by
  obtain ⟨hBm, hKm, hK1, hK2, hK3, hK4, hK5, hK6, hK7, hK8, hK9, hK10, hK11, hP0, hP1, hP2, hP3, hP6, hP7, hP8, hP9, hP10, hP16, hP17⟩ := id hm
  refine en_I (by decide +kernel) (Nat.le_of_ble_eq_true rfl) ?_
  change Wd _ _ _ _ _ _ _ _ 0 [some _, some _] [] _ _ _ _
  refine r_iload_n (pc := 0) dX12_count_0 rfl ?_
  refine r_i2l (pc := 1) dX12_count_1 (by first | omega | (split <;> decide)) ?_
  refine r_lconst (v := 0) (pc := 2) dX12_count_2 (by decide) ?_
  refine r_ldc2_w (v := (13 : Int)) (pc := 3) dX12_count_3 kcX12_298 ?_
  refine i_S3ix (pc := 6) okX12_in staX12_in q1098 dX12_count_6 (by decide) (Nat.le_of_ble_eq_true rfl) (sX12_in) ?_
  refine r_if_eq (pc := 9) 20 dX12_count_9 (by decide) (by first | omega | (split <;> decide)) (fun h9 => ?_) (fun h9 => ?_)
  · skip
    refine r_aload_n (pc := 20) dX12_count_20 rfl ?_
    refine r_bipush (pc := 21) dX12_count_21 (by decide) ?_
    refine i_V1ix (pc := 23) okX12_bad inX12_bad selX12_bad q1101 dX12_count_23 (by assumption) rfl (by decide) (Nat.le_of_ble_eq_true rfl) (sX12_bad) ?_
    refine t_iret (pc := 26) dX12_count_26 rfl rfl ?_
    unfold countM
    rw [if_neg (wf h9)]
    exact QZ_bad
  · skip
    have h1 := wt h9
    refine r_aload_n (pc := 12) dX12_count_12 rfl ?_
    refine r_iload_n (pc := 13) dX12_count_13 rfl ?_
    refine i_V1ix (pc := 14) okX12_counted inX12_counted selX12_counted q1463 dX12_count_14 (by assumption) rfl (by decide) (Nat.le_of_ble_eq_true rfl) (sX12_counted) ?_
    refine r_goto (pc := 17) 26 dX12_count_17 (by decide) ?_
    refine t_iret (pc := 26) dX12_count_26 rfl rfl ?_
    unfold countM
    rw [if_pos h1]
    exact ⟨rfl, rfl, rfl⟩
theorem sX12_sums {h x y : Int} {a n : Nat} (hm : RfL G C P m := by assumption) (hx : x = (a : Int) := by first | rfl | omega) (hy : y = (n : Int) := by first | rfl | omega) (han : a + n ≤ 236 := by omega) (hr : ∀ k, k < n → iR (I (m + 1) (a + k)) := by assumption) : SX12_sums G [.ref m, .long (zL h), .int (zI x), .int (zI y)] C I P L (NL C (XI (sumsF (I (m + 1)) h a n) I P L)) := by
  obtain ⟨hBm, hKm, hK1, hK2, hK3, hK4, hK5, hK6, hK7, hK8, hK9, hK10, hK11, hP0, hP1, hP2, hP3, hP6, hP7, hP8, hP9, hP10, hP16, hP17⟩ := id hm
  refine en_L (by decide +kernel) (Nat.le_of_ble_eq_true rfl) ?_
  change Wd _ _ _ _ _ _ _ _ 0 [some _, some _, none, some _, some _, none, none, none] [] _ _ _ _
  have loop : ∀ (d o : Nat) (i k : Int), o + d = n → i = (o : Int) → k = sumsF (I (m + 1)) h a o → Wd G yX12_sums cX12_sums 8 (some .long) 0 (C.2.1 + 0, C.2.2 + 0) (NL C (XI (sumsF (I (m + 1)) h a n) I P L)) 6 [some (.ref m), some (.long (zL h)), none, some (.int (zI x)), some (.int (zI y)), some (.long (zL k)), none, some (.int (zI i))] [] C I P L := by
    intro d
    induction d with
    | zero =>
      intro o i k hd hi hk
      refine r_iload (pc := 6) dX12_sums_6 rfl ?_
      refine r_iload (pc := 8) dX12_sums_8 rfl ?_
      refine r_icmp_ge (pc := 10) 38 dX12_sums_10 (by decide) (by omega) (by omega) (fun h10 => ?_) (fun h10 => ?_)
      · skip
        refine r_lload (pc := 38) dX12_sums_38 rfl ?_
        refine t_lret (pc := 40) dX12_sums_40 rfl ?_
        exact ⟨by rw [hk, show o = n by omega], rfl, rfl, rfl⟩
      · exfalso; omega
    | succ d ih =>
      intro o i k hd hi hk
      have hro := hr o (by omega)
      refine r_iload (pc := 6) dX12_sums_6 rfl ?_
      refine r_iload (pc := 8) dX12_sums_8 rfl ?_
      refine r_icmp_ge (pc := 10) 38 dX12_sums_10 (by decide) (by omega) (by omega) (fun h10 => ?_) (fun h10 => ?_)
      · exfalso; omega
      · skip
        refine r_ldc2_w (v := (31 : Int)) (pc := 13) dX12_sums_13 kcX12_303 ?_
        refine r_lload (pc := 16) dX12_sums_16 rfl ?_
        refine r_lmul (pc := 18) dX12_sums_18 ?_
        refine r_aload_n (pc := 19) dX12_sums_19 rfl ?_
        refine r_getA (pc := 20) dX12_sums_20 frX12_7 (by assumption) (by assumption) ?_
        refine r_iload_n (pc := 23) dX12_sums_23 rfl ?_
        refine r_iload (pc := 24) dX12_sums_24 rfl ?_
        refine r_iadd (pc := 26) dX12_sums_26 ?_
        refine r_iald (j := a + o) (pc := 27) dX12_sums_27 (by assumption) (by omega) (by omega) (by omega) ?_
        refine r_i2l (pc := 28) dX12_sums_28 (by omega) ?_
        refine r_ladd (pc := 29) dX12_sums_29 ?_
        refine r_lstore (pc := 30) dX12_sums_30 (by decide) ?_
        refine r_iinc (pc := 32) dX12_sums_32 rfl ?_
        refine r_goto (pc := 35) 6 dX12_sums_35 (by decide) ?_
        exact ih (o + 1) _ _ (by omega) (by omega) (by rw [sums_st, hk])
  refine r_lload_n (pc := 0) dX12_sums_0 rfl ?_
  refine r_lstore (pc := 1) dX12_sums_1 (by decide) ?_
  refine r_iconst (pc := 3) dX12_sums_3 ?_
  refine r_istore (pc := 4) dX12_sums_4 (by decide) ?_
  exact loop n 0 _ _ (by omega) rfl rfl
def digM (T : RS) : Int := 31 * (31 * mixB T.1 (sumsF T.1 (talN T.1 T.1 (T.1 115) T.2.2.2.2.2.1 827 14) 7 (4 * sizeF T.1)) + T.2.2.2.2.2.2.1) + T.2.2.2.2.2.2.2
set_option maxHeartbeats 4000000 in
theorem sX12_digest (hm : RfL G C P m := by assumption) (hF : FI (I (m + 1)) Y := by assumption) (hBI : BI (I (m + 1)) := by assumption) : SX12_digest G [.ref m] C I P L (NL C (QZ m (digM (rdM m I L)) (rdM m I L) P)) := by
  obtain ⟨hBm, hKm, hK1, hK2, hK3, hK4, hK5, hK6, hK7, hK8, hK9, hK10, hK11, hP0, hP1, hP2, hP3, hP6, hP7, hP8, hP9, hP10, hP16, hP17⟩ := id hm
  obtain ⟨hs6, hsz⟩ := sizeF_le hF
  obtain ⟨b0, b1, b2, b3, b4, b5, b6⟩ := id hBI
  have r1 : ∀ k, k < 4 * sizeF (I (m + 1)) → iR (I (m + 1) (7 + k)) := by
    intro k hk
    have hf := hF.2.2.2.2.2.2.2 (k / 4) (by omega)
    rcases (show k % 4 = 0 ∨ k % 4 = 1 ∨ k % 4 = 2 ∨ k % 4 = 3 by omega) with h | h | h | h
    · rw [show 7 + k = 7 + 4 * (k / 4) by omega]; omega
    · rw [show 7 + k = 8 + 4 * (k / 4) by omega]; omega
    · rw [show 7 + k = 9 + 4 * (k / 4) by omega]; omega
    · rw [show 7 + k = 10 + 4 * (k / 4) by omega]; omega
  have r2 : ∀ k, k < 3 * (I (m + 1) 33).toNat → iR (I (m + 1) (34 + k)) := by
    intro k hk
    have hf := b4 (k / 3) (by omega)
    rcases (show k % 3 = 0 ∨ k % 3 = 1 ∨ k % 3 = 2 by omega) with h | h | h
    · rw [show 34 + k = 34 + 3 * (k / 3) by omega]; omega
    · rw [show 34 + k = 35 + 3 * (k / 3) by omega]; omega
    · rw [show 34 + k = 36 + 3 * (k / 3) by omega]; omega
  have r3 : ∀ k, k < 3 * (I (m + 1) 59).toNat → iR (I (m + 1) (60 + k)) := by
    intro k hk
    have hf := b5 (k / 3) (by omega)
    rcases (show k % 3 = 0 ∨ k % 3 = 1 ∨ k % 3 = 2 by omega) with h | h | h
    · rw [show 60 + k = 60 + 3 * (k / 3) by omega]; omega
    · rw [show 60 + k = 61 + 3 * (k / 3) by omega]; omega
    · rw [show 60 + k = 62 + 3 * (k / 3) by omega]; omega
  have r4 : ∀ k, k < 6 * (I (m + 1) 90).toNat → iR (I (m + 1) (91 + k)) := by
    intro k hk
    have hf := b6 k (by omega)
    omega
  refine en_L (by decide +kernel) (Nat.le_of_ble_eq_true rfl) ?_
  change Wd _ _ _ _ _ _ _ _ 0 [some _, none, none, none] [] _ _ _ _
  have loop : ∀ (d o : Nat) (i k : Int), o + d = 14 → i = (o : Int) → k = talN (I (m + 1)) (I (m + 1)) (I (m + 1) 115) (I m 11) 827 o → Wd G yX12_digest cX12_digest 4 (some .long) 1 (C.2.1 + 0, C.2.2 + 0) (NL C (QZ m (digM (rdM m I L)) (rdM m I L) P)) 6 [some (.ref m), some (.long (zL k)), none, some (.int (zI i))] [] C I P L := by
    intro d
    induction d with
    | zero =>
      intro o i k hd hi hk
      refine r_iload_n (pc := 6) dX12_digest_6 rfl ?_
      refine r_bipush (pc := 7) dX12_digest_7 (by decide) ?_
      refine r_icmp_ge (pc := 9) 31 dX12_digest_9 (by decide) (by omega) (by omega) (fun h9 => ?_) (fun h9 => ?_)
      · skip
        refine r_aload_n (pc := 31) dX12_digest_31 rfl ?_
        refine r_lload_n (pc := 32) dX12_digest_32 rfl ?_
        refine r_bipush (pc := 33) dX12_digest_33 (by decide) ?_
        refine r_iconst (pc := 35) dX12_digest_35 ?_
        refine r_aload_n (pc := 36) dX12_digest_36 rfl ?_
        refine i_V0ix (pc := 37) okX12_families inX12_families selX12_families q1118 dX12_digest_37 (by assumption) rfl (by decide) (Nat.le_of_ble_eq_true rfl) (sX12_families) ?_
        refine r_imul (pc := 40) dX12_digest_40 ?_
        refine i_V3lx (pc := 41) okX12_sums inX12_sums selX12_sums q1473 dX12_digest_41 (by assumption) rfl (by decide) (Nat.le_of_ble_eq_true rfl) (sX12_sums (a := 7) (n := 4 * sizeF (I (m + 1))) (hr := r1)) ?_
        refine r_lstore_n (pc := 44) dX12_digest_44 (by decide) ?_
        change Wd _ _ _ _ _ _ _ _ 45 [some (.ref m), some (.long _), none, some (.int _)] [] _ _ _ _
        refine r_ldc2_w (v := (31 : Int)) (pc := 45) dX12_digest_45 kcX12_303 ?_
        refine r_lload_n (pc := 48) dX12_digest_48 rfl ?_
        refine r_lmul (pc := 49) dX12_digest_49 ?_
        refine r_aload_n (pc := 50) dX12_digest_50 rfl ?_
        refine r_getA (pc := 51) dX12_digest_51 frX12_7 (by assumption) (by assumption) ?_
        refine r_bipush (pc := 54) dX12_digest_54 (by decide) ?_
        refine r_iald (j := 58) (pc := 56) dX12_digest_56 (by assumption) rfl (by omega) (by omega) ?_
        refine r_i2l (pc := 57) dX12_digest_57 (by omega) ?_
        refine r_ladd (pc := 58) dX12_digest_58 ?_
        refine r_lstore_n (pc := 59) dX12_digest_59 (by decide) ?_
        change Wd _ _ _ _ _ _ _ _ 60 [some (.ref m), some (.long _), none, some (.int _)] [] _ _ _ _
        refine r_aload_n (pc := 60) dX12_digest_60 rfl ?_
        refine r_lload_n (pc := 61) dX12_digest_61 rfl ?_
        refine r_bipush (pc := 62) dX12_digest_62 (by decide) ?_
        refine r_iconst (pc := 64) dX12_digest_64 ?_
        refine r_aload_n (pc := 65) dX12_digest_65 rfl ?_
        refine r_getA (pc := 66) dX12_digest_66 frX12_7 (by assumption) (by assumption) ?_
        refine r_bipush (pc := 69) dX12_digest_69 (by decide) ?_
        refine r_iald (j := 33) (pc := 71) dX12_digest_71 (by assumption) rfl (by omega) (by omega) ?_
        refine r_imul (pc := 72) dX12_digest_72 ?_
        refine i_V3lx (pc := 73) okX12_sums inX12_sums selX12_sums q1473 dX12_digest_73 (by assumption) rfl (by decide) (Nat.le_of_ble_eq_true rfl) (sX12_sums (a := 34) (n := 3 * (I (m + 1) 33).toNat) (hr := r2)) ?_
        refine r_lstore_n (pc := 76) dX12_digest_76 (by decide) ?_
        change Wd _ _ _ _ _ _ _ _ 77 [some (.ref m), some (.long _), none, some (.int _)] [] _ _ _ _
        refine r_aload_n (pc := 77) dX12_digest_77 rfl ?_
        refine r_lload_n (pc := 78) dX12_digest_78 rfl ?_
        refine r_bipush (pc := 79) dX12_digest_79 (by decide) ?_
        refine r_iconst (pc := 81) dX12_digest_81 ?_
        refine r_aload_n (pc := 82) dX12_digest_82 rfl ?_
        refine r_getA (pc := 83) dX12_digest_83 frX12_7 (by assumption) (by assumption) ?_
        refine r_bipush (pc := 86) dX12_digest_86 (by decide) ?_
        refine r_iald (j := 59) (pc := 88) dX12_digest_88 (by assumption) rfl (by omega) (by omega) ?_
        refine r_imul (pc := 89) dX12_digest_89 ?_
        refine i_V3lx (pc := 90) okX12_sums inX12_sums selX12_sums q1473 dX12_digest_90 (by assumption) rfl (by decide) (Nat.le_of_ble_eq_true rfl) (sX12_sums (a := 60) (n := 3 * (I (m + 1) 59).toNat) (hr := r3)) ?_
        refine r_lstore_n (pc := 93) dX12_digest_93 (by decide) ?_
        change Wd _ _ _ _ _ _ _ _ 94 [some (.ref m), some (.long _), none, some (.int _)] [] _ _ _ _
        refine r_aload_n (pc := 94) dX12_digest_94 rfl ?_
        refine r_lload_n (pc := 95) dX12_digest_95 rfl ?_
        refine r_bipush (pc := 96) dX12_digest_96 (by decide) ?_
        refine r_bipush (pc := 98) dX12_digest_98 (by decide) ?_
        refine r_aload_n (pc := 100) dX12_digest_100 rfl ?_
        refine r_getA (pc := 101) dX12_digest_101 frX12_7 (by assumption) (by assumption) ?_
        refine r_bipush (pc := 104) dX12_digest_104 (by decide) ?_
        refine r_iald (j := 90) (pc := 106) dX12_digest_106 (by assumption) rfl (by omega) (by omega) ?_
        refine r_imul (pc := 107) dX12_digest_107 ?_
        refine i_V3lx (pc := 108) okX12_sums inX12_sums selX12_sums q1473 dX12_digest_108 (by assumption) rfl (by decide) (Nat.le_of_ble_eq_true rfl) (sX12_sums (a := 91) (n := 6 * (I (m + 1) 90).toNat) (hr := r4)) ?_
        refine r_lstore_n (pc := 111) dX12_digest_111 (by decide) ?_
        change Wd _ _ _ _ _ _ _ _ 112 [some (.ref m), some (.long _), none, some (.int _)] [] _ _ _ _
        refine r_ldc2_w (v := (31 : Int)) (pc := 112) dX12_digest_112 kcX12_303 ?_
        refine r_ldc2_w (v := (31 : Int)) (pc := 115) dX12_digest_115 kcX12_303 ?_
        refine r_lload_n (pc := 118) dX12_digest_118 rfl ?_
        refine r_lmul (pc := 119) dX12_digest_119 ?_
        refine r_aload_n (pc := 120) dX12_digest_120 rfl ?_
        refine r_getL (pc := 121) dX12_digest_121 frX12_161 (by assumption) ?_
        refine r_ladd (pc := 124) dX12_digest_124 ?_
        refine r_lmul (pc := 125) dX12_digest_125 ?_
        refine r_aload_n (pc := 126) dX12_digest_126 rfl ?_
        refine r_getL (pc := 127) dX12_digest_127 frX12_23 (by assumption) ?_
        refine r_ladd (pc := 130) dX12_digest_130 ?_
        refine t_lret (pc := 131) dX12_digest_131 rfl ?_
        refine ⟨?_, rfl, rfl⟩
        rw [hk, show o = 14 by omega]; rfl
      · exfalso; omega
    | succ d ih =>
      intro o i k hd hi hk
      refine r_iload_n (pc := 6) dX12_digest_6 rfl ?_
      refine r_bipush (pc := 7) dX12_digest_7 (by decide) ?_
      refine r_icmp_ge (pc := 9) 31 dX12_digest_9 (by decide) (by omega) (by omega) (fun h9 => ?_) (fun h9 => ?_)
      · exfalso; omega
      · skip
        refine r_ldc2_w (v := (31 : Int)) (pc := 12) dX12_digest_12 kcX12_303 ?_
        refine r_lload_n (pc := 15) dX12_digest_15 rfl ?_
        refine r_lmul (pc := 16) dX12_digest_16 ?_
        refine r_aload_n (pc := 17) dX12_digest_17 rfl ?_
        refine r_iload_n (pc := 18) dX12_digest_18 rfl ?_
        refine i_V1ix (pc := 19) okX12_counted inX12_counted selX12_counted q1463 dX12_digest_19 (by assumption) rfl (by decide) (Nat.le_of_ble_eq_true rfl) (sX12_counted) ?_
        refine r_i2lw (pc := 22) dX12_digest_22 ?_
        refine r_ladd (pc := 23) dX12_digest_23 ?_
        refine r_lstore_n (pc := 24) dX12_digest_24 (by decide) ?_
        refine r_iinc (pc := 25) dX12_digest_25 rfl ?_
        refine r_goto (pc := 28) 6 dX12_digest_28 (by decide) ?_
        refine ih (o + 1) _ _ (by omega) (by omega) ?_
        rw [tal_st, ← hk, hi]; rfl
  refine r_ldc2_w (v := (827 : Int)) (pc := 0) dX12_digest_0 kcX12_305 ?_
  refine r_lstore_n (pc := 3) dX12_digest_3 (by decide) ?_
  refine r_iconst (pc := 4) dX12_digest_4 ?_
  refine r_istore_n (pc := 5) dX12_digest_5 (by decide) ?_
  exact loop 14 0 _ _ (by omega) rfl rfl
def kepR (K N : Nat → Int) (i f : Nat) : Nat → Int := fun x => if 236 * i ≤ x ∧ x < 236 * i + f then N (x - 236 * i) else K x
def imageM (T : RS) (i : Int) : Int × RS := if 0 ≤ i ∧ i ≤ 1 then (1, (T.1, kepR T.2.1 T.1 i.toNat 236, up T.2.2.1 i.toNat 1, T.2.2.2)) else (-2, zB T)
theorem sX12_image {i : Int} (hm : RfL G C P m := by assumption) (hi : iR i := by omega) : SX12_image G [.ref m, .int (zI i)] C I P L (NI C (QZ m (imageM (rdM m I L) i).1 (imageM (rdM m I L) i).2 P)) := by
  obtain ⟨hBm, hKm, hK1, hK2, hK3, hK4, hK5, hK6, hK7, hK8, hK9, hK10, hK11, hP0, hP1, hP2, hP3, hP6, hP7, hP8, hP9, hP10, hP16, hP17⟩ := id hm
  refine en_I (by decide +kernel) (Nat.le_of_ble_eq_true rfl) ?_
  change Wd _ _ _ _ _ _ _ _ 0 [some _, some _, none] [] _ _ _ _
  have loop : (0 ≤ i ∧ i ≤ 1) → ∀ (d o : Nat) (k : Int) (J : MI), o + d = 236 → k = (o : Int) → J = uR I (m + 2) (kepR (I (m + 2)) (I (m + 1)) i.toNat o) → Wd G yX12_image cX12_image 3 (some .int) 1 (C.2.1 + 0, C.2.2 + 0) (NI C (QZ m (imageM (rdM m I L) i).1 (imageM (rdM m I L) i).2 P)) 19 [some (.ref m), some (.int (zI i)), some (.int (zI k))] [] C J P L := by
    intro hz d
    induction d with
    | zero =>
      intro o k J hd hk hJ
      subst hJ
      refine r_iload_n (pc := 19) dX12_image_19 rfl ?_
      refine r_sipush (pc := 20) dX12_image_20 (by decide) ?_
      refine r_icmp_ge (pc := 23) 50 dX12_image_23 (by decide) (by omega) (by omega) (fun h23 => ?_) (fun h23 => ?_)
      · skip
        refine r_aload_n (pc := 50) dX12_image_50 rfl ?_
        refine r_getA (pc := 51) dX12_image_51 frX12_16 (by assumption) (by assumption) ?_
        refine r_iload_n (pc := 54) dX12_image_54 rfl ?_
        refine r_iconst (pc := 55) dX12_image_55 ?_
        refine r_zast (j := i.toNat) (pc := 56) dX12_image_56 (by assumption) (by omega) (by omega) (by omega) (by omega) rfl ?_
        try simp only [u2_I, uR_uR, uR_app, eq_self, Nat.reduceEqDiff, Nat.add_eq_left, Nat.left_eq_add, ↓reduceIte]
        refine r_iconst (pc := 57) dX12_image_57 ?_
        refine t_iret (pc := 58) dX12_image_58 rfl rfl ?_
        unfold imageM
        rw [if_pos hz]
        refine ⟨rfl, ?_, rfl⟩
        unfold rdM
        simp only [uR_app, Nat.reduceEqDiff, Nat.add_eq_left, Nat.left_eq_add, ↓reduceIte]
        rw [show o = 236 by omega]
      · exfalso; omega
    | succ d ih =>
      intro o k J hd hk hJ
      subst hJ
      refine r_iload_n (pc := 19) dX12_image_19 rfl ?_
      refine r_sipush (pc := 20) dX12_image_20 (by decide) ?_
      refine r_icmp_ge (pc := 23) 50 dX12_image_23 (by decide) (by omega) (by omega) (fun h23 => ?_) (fun h23 => ?_)
      · exfalso; omega
      · skip
        refine r_aload_n (pc := 26) dX12_image_26 rfl ?_
        refine r_getA (pc := 27) dX12_image_27 frX12_13 (by assumption) (by assumption) ?_
        refine r_sipush (pc := 30) dX12_image_30 (by decide) ?_
        refine r_iload_n (pc := 33) dX12_image_33 rfl ?_
        refine r_imul (pc := 34) dX12_image_34 ?_
        refine r_iload_n (pc := 35) dX12_image_35 rfl ?_
        refine r_iadd (pc := 36) dX12_image_36 ?_
        refine r_aload_n (pc := 37) dX12_image_37 rfl ?_
        refine r_getA (pc := 38) dX12_image_38 frX12_7 (by assumption) (by assumption) ?_
        refine r_iload_n (pc := 41) dX12_image_41 rfl ?_
        refine r_iald (j := o) (pc := 42) dX12_image_42 (by assumption) (by omega) (by omega) (by omega) ?_
        try simp only [u2_I, uR_uR, uR_app, eq_self, Nat.reduceEqDiff, Nat.add_eq_left, Nat.left_eq_add, ↓reduceIte]
        refine r_iast (j := 236 * i.toNat + o) (pc := 43) dX12_image_43 (by assumption) (by omega) (by omega) (by omega) (by omega) ?_
        try simp only [u2_I, uR_uR, uR_app, eq_self, Nat.reduceEqDiff, Nat.add_eq_left, Nat.left_eq_add, ↓reduceIte]
        refine r_iinc (pc := 44) dX12_image_44 rfl ?_
        refine r_goto (pc := 47) 19 dX12_image_47 (by decide) ?_
        refine ih (o + 1) _ _ (by omega) (by omega) ?_
        congr 1
        funext x
        rw [up_app]
        unfold kepR
        by_cases h0 : x = 236 * i.toNat + o
        · rw [if_pos h0, if_pos (by omega), h0]; congr 1; omega
        · rw [if_neg h0]
          by_cases h1 : 236 * i.toNat ≤ x ∧ x < 236 * i.toNat + o
          · rw [if_pos h1, if_pos (by omega)]
          · rw [if_neg h1, if_neg (by omega)]
  refine r_iload_n (pc := 0) dX12_image_0 rfl ?_
  refine r_i2l (pc := 1) dX12_image_1 (by first | omega | (split <;> decide)) ?_
  refine r_lconst (v := 0) (pc := 2) dX12_image_2 (by decide) ?_
  refine r_lconst (v := 1) (pc := 3) dX12_image_3 (by decide) ?_
  refine i_S3ix (pc := 4) okX12_in staX12_in q1098 dX12_image_4 (by decide) (Nat.le_of_ble_eq_true rfl) (sX12_in) ?_
  refine r_if_ne (pc := 7) 17 dX12_image_7 (by decide) (by first | omega | (split <;> decide)) (fun h7 => ?_) (fun h7 => ?_)
  · skip
    refine r_iconst (pc := 17) dX12_image_17 ?_
    refine r_istore_n (pc := 18) dX12_image_18 (by decide) ?_
    refine loop (wt h7) 236 0 _ _ (by omega) rfl ?_
    have e : kepR (I (m + 2)) (I (m + 1)) i.toNat 0 = I (m + 2) := by funext x; unfold kepR; rw [if_neg (by omega)]
    rw [e]; exact (uR_same I (m + 2)).symm
  · skip
    refine r_aload_n (pc := 10) dX12_image_10 rfl ?_
    refine r_bipush (pc := 11) dX12_image_11 (by decide) ?_
    refine i_V1ix (pc := 13) okX12_bad inX12_bad selX12_bad q1101 dX12_image_13 (by assumption) rfl (by decide) (Nat.le_of_ble_eq_true rfl) (sX12_bad) ?_
    refine t_iret (pc := 16) dX12_image_16 rfl rfl ?_
    unfold imageM
    rw [if_neg (wf h7)]
    exact QZ_bad
def goeR (K N : Nat → Int) (i f : Nat) : Nat → Int := fun x => if x < f then K (236 * i + x) else N x
def fromM (T : RS) (i : Int) : Int × RS := if 0 ≤ i ∧ i ≤ 1 then (if T.2.2.1 i.toNat = 0 then (-3, zO T) else (1, zN T (goeR T.2.1 T.1 i.toNat 236))) else (-2, zB T)
theorem sX12_from {i : Int} (hm : RfL G C P m := by assumption) (hk01 : ∀ j, j < 2 → I (m + 3) j = 0 ∨ I (m + 3) j = 1 := by assumption) (hi : iR i := by omega) : SX12_from G [.ref m, .int (zI i)] C I P L (NI C (QZ m (fromM (rdM m I L) i).1 (fromM (rdM m I L) i).2 P)) := by
  obtain ⟨hBm, hKm, hK1, hK2, hK3, hK4, hK5, hK6, hK7, hK8, hK9, hK10, hK11, hP0, hP1, hP2, hP3, hP6, hP7, hP8, hP9, hP10, hP16, hP17⟩ := id hm
  refine en_I (by decide +kernel) (Nat.le_of_ble_eq_true rfl) ?_
  change Wd _ _ _ _ _ _ _ _ 0 [some _, some _, none] [] _ _ _ _
  have loop : (0 ≤ i ∧ i ≤ 1) → ¬ I (m + 3) i.toNat = 0 → ∀ (d o : Nat) (k : Int) (J : MI), o + d = 236 → k = (o : Int) → J = uR I (m + 1) (goeR (I (m + 2)) (I (m + 1)) i.toNat o) → Wd G yX12_from cX12_from 3 (some .int) 1 (C.2.1 + 0, C.2.2 + 0) (NI C (QZ m (fromM (rdM m I L) i).1 (fromM (rdM m I L) i).2 P)) 33 [some (.ref m), some (.int (zI i)), some (.int (zI k))] [] C J P L := by
    intro hz hne d
    induction d with
    | zero =>
      intro o k J hd hk hJ
      subst hJ
      refine r_iload_n (pc := 33) dX12_from_33 rfl ?_
      refine r_sipush (pc := 34) dX12_from_34 (by decide) ?_
      refine r_icmp_ge (pc := 37) 64 dX12_from_37 (by decide) (by omega) (by omega) (fun h37 => ?_) (fun h37 => ?_)
      · skip
        refine r_iconst (pc := 64) dX12_from_64 ?_
        refine t_iret (pc := 65) dX12_from_65 rfl rfl ?_
        unfold fromM
        rw [if_pos hz, if_neg (show ¬ (rdM m I L).2.2.1 i.toNat = 0 from hne)]
        refine ⟨rfl, ?_, rfl⟩
        rw [rdM_N, show o = 236 by omega]; rfl
      · exfalso; omega
    | succ d ih =>
      intro o k J hd hk hJ
      subst hJ
      refine r_iload_n (pc := 33) dX12_from_33 rfl ?_
      refine r_sipush (pc := 34) dX12_from_34 (by decide) ?_
      refine r_icmp_ge (pc := 37) 64 dX12_from_37 (by decide) (by omega) (by omega) (fun h37 => ?_) (fun h37 => ?_)
      · exfalso; omega
      · skip
        refine r_aload_n (pc := 40) dX12_from_40 rfl ?_
        refine r_getA (pc := 41) dX12_from_41 frX12_7 (by assumption) (by assumption) ?_
        refine r_iload_n (pc := 44) dX12_from_44 rfl ?_
        refine r_aload_n (pc := 45) dX12_from_45 rfl ?_
        refine r_getA (pc := 46) dX12_from_46 frX12_13 (by assumption) (by assumption) ?_
        refine r_sipush (pc := 49) dX12_from_49 (by decide) ?_
        refine r_iload_n (pc := 52) dX12_from_52 rfl ?_
        refine r_imul (pc := 53) dX12_from_53 ?_
        refine r_iload_n (pc := 54) dX12_from_54 rfl ?_
        refine r_iadd (pc := 55) dX12_from_55 ?_
        refine r_iald (j := 236 * i.toNat + o) (pc := 56) dX12_from_56 (by assumption) (by omega) (by omega) (by omega) ?_
        try simp only [u2_I, uR_uR, uR_app, eq_self, Nat.reduceEqDiff, Nat.add_eq_left, Nat.left_eq_add, ↓reduceIte]
        refine r_iast (j := o) (pc := 57) dX12_from_57 (by assumption) (by omega) (by omega) (by omega) (by omega) ?_
        try simp only [u2_I, uR_uR, uR_app, eq_self, Nat.reduceEqDiff, Nat.add_eq_left, Nat.left_eq_add, ↓reduceIte]
        refine r_iinc (pc := 58) dX12_from_58 rfl ?_
        refine r_goto (pc := 61) 33 dX12_from_61 (by decide) ?_
        refine ih (o + 1) _ _ (by omega) (by omega) ?_
        congr 1
        funext x
        rw [up_app]
        unfold goeR
        by_cases h0 : x = o
        · rw [if_pos h0, if_pos (by omega), h0]
        · rw [if_neg h0]
          by_cases h1 : x < o
          · rw [if_pos h1, if_pos (by omega)]
          · rw [if_neg h1, if_neg (by omega)]
  refine r_iload_n (pc := 0) dX12_from_0 rfl ?_
  refine r_i2l (pc := 1) dX12_from_1 (by first | omega | (split <;> decide)) ?_
  refine r_lconst (v := 0) (pc := 2) dX12_from_2 (by decide) ?_
  refine r_lconst (v := 1) (pc := 3) dX12_from_3 (by decide) ?_
  refine i_S3ix (pc := 4) okX12_in staX12_in q1098 dX12_from_4 (by decide) (Nat.le_of_ble_eq_true rfl) (sX12_in) ?_
  refine r_if_ne (pc := 7) 17 dX12_from_7 (by decide) (by first | omega | (split <;> decide)) (fun h7 => ?_) (fun h7 => ?_)
  · skip
    have h1 := wt h7
    have hkk := hk01 i.toNat (by omega)
    refine r_aload_n (pc := 17) dX12_from_17 rfl ?_
    refine r_getA (pc := 18) dX12_from_18 frX12_16 (by assumption) (by assumption) ?_
    refine r_iload_n (pc := 21) dX12_from_21 rfl ?_
    refine r_zald (j := i.toNat) (pc := 22) dX12_from_22 (by assumption) (by omega) (by first | omega | (split <;> decide)) (by omega) ?_
    refine r_if_ne (pc := 23) 31 dX12_from_23 (by decide) (by first | omega | (split <;> decide)) (fun h23 => ?_) (fun h23 => ?_)
    · skip
      refine r_iconst (pc := 31) dX12_from_31 ?_
      refine r_istore_n (pc := 32) dX12_from_32 (by decide) ?_
      refine loop h1 h23 236 0 _ _ (by omega) rfl ?_
      have e : goeR (I (m + 2)) (I (m + 1)) i.toNat 0 = I (m + 1) := by funext x; unfold goeR; rw [if_neg (by omega)]
      rw [e]; exact (uR_same I (m + 1)).symm
    · skip
      refine r_aload_n (pc := 26) dX12_from_26 rfl ?_
      refine i_V0ix (pc := 27) okX12_no inX12_no selX12_no q1203 dX12_from_27 (by assumption) rfl (by decide) (Nat.le_of_ble_eq_true rfl) (sX12_no) ?_
      refine t_iret (pc := 30) dX12_from_30 rfl rfl ?_
      unfold fromM
      rw [if_pos h1, if_pos (show (rdM m I L).2.2.1 i.toNat = 0 from h23)]
      exact QZ_no
  · skip
    refine r_aload_n (pc := 10) dX12_from_10 rfl ?_
    refine r_bipush (pc := 11) dX12_from_11 (by decide) ?_
    refine i_V1ix (pc := 13) okX12_bad inX12_bad selX12_bad q1101 dX12_from_13 (by assumption) rfl (by decide) (Nat.le_of_ble_eq_true rfl) (sX12_bad) ?_
    refine t_iret (pc := 16) dX12_from_16 rfl rfl ?_
    unfold fromM
    rw [if_neg (wf h7)]
    exact QZ_bad
theorem sft_0 (N : Nat → Int) : sftR N 0 = N := by funext x; unfold sftR; rw [if_neg (by omega)]
theorem sft_s (N : Nat → Int) (f : Nat) : up (sftR N f) (116 + f) (sftR N f (136 + f)) = sftR N (f + 1) := by
  funext x
  rw [up_app]
  by_cases h0 : x = 116 + f
  · rw [if_pos h0]; unfold sftR; rw [if_neg (by omega), if_pos (by omega), h0]; congr 1; omega
  · rw [if_neg h0]; unfold sftR
    by_cases h1 : 116 ≤ x ∧ x < 116 + f
    · rw [if_pos h1, if_pos (by omega)]
    · rw [if_neg h1, if_neg (by omega)]
theorem lay1_0 (N : Nat → Int) (a : Nat) : lay1 N a 0 = N := by funext x; unfold lay1; rw [if_neg (by omega)]
theorem lay1_s (N : Nat → Int) {a f : Nat} (ha : 116 ≤ a) (hf : f < 4) : up (lay1 N a f) (a + f) (lay1 N a f (2 + f)) = lay1 N a (f + 1) := by
  funext x
  rw [up_app]
  by_cases h0 : x = a + f
  · rw [if_pos h0]; unfold lay1; rw [if_neg (by omega), if_pos (by omega), h0]; congr 1; omega
  · rw [if_neg h0]; unfold lay1
    by_cases h1 : a ≤ x ∧ x < a + f
    · rw [if_pos h1, if_pos (by omega)]
    · rw [if_neg h1, if_neg (by omega)]
theorem lay2_0 (N : Nat → Int) (a : Nat) : lay2 N a 0 = N := by funext x; unfold lay2; rw [if_neg (by omega), if_neg (by omega)]
theorem lay2_s (N : Nat → Int) {a f : Nat} (ha : 116 ≤ a) (hf : f < 6) : up (up (lay2 N a f) (a + 4 + f) (lay2 N a f (8 + 4 * f))) (a + 10 + f) (up (lay2 N a f) (a + 4 + f) (lay2 N a f (8 + 4 * f)) (9 + 4 * f)) = lay2 N a (f + 1) := by
  have e8 : lay2 N a f (8 + 4 * f) = N (8 + 4 * f) := by unfold lay2; rw [if_neg (by omega), if_neg (by omega)]
  have e9 : up (lay2 N a f) (a + 4 + f) (lay2 N a f (8 + 4 * f)) (9 + 4 * f) = N (9 + 4 * f) := by rw [up_n _ _ (by omega)]; unfold lay2; rw [if_neg (by omega), if_neg (by omega)]
  rw [e9, e8]
  funext x
  rw [up_app, up_app]
  by_cases h0 : x = a + 10 + f
  · rw [if_pos h0]; unfold lay2; rw [if_neg (by omega), if_pos (by omega), h0]; congr 1; omega
  · rw [if_neg h0]
    by_cases h1 : x = a + 4 + f
    · rw [if_pos h1]; unfold lay2; rw [if_pos (by omega), h1]; congr 1; omega
    · rw [if_neg h1]; unfold lay2
      by_cases h2 : a + 4 ≤ x ∧ x < a + 4 + f
      · rw [if_pos h2, if_pos (by omega)]
      · rw [if_neg h2]
        by_cases h3 : a + 10 ≤ x ∧ x < a + 10 + f
        · rw [if_pos h3, if_neg (show ¬ (a + 4 ≤ x ∧ x < a + 4 + (f + 1)) by omega), if_pos (by omega)]
        · rw [if_neg h3, if_neg (show ¬ (a + 4 ≤ x ∧ x < a + 4 + (f + 1)) by omega), if_neg (by omega)]
theorem lay_end (N : Nat → Int) {a : Nat} (ha : 116 ≤ a) (hu : ∃ u, N 115 = u) : layR N a (N 115) = (let T := lay2 (lay1 N a 4) a 6; let T1 := up T (a + 16) (T 31); let T2 := up T1 (a + 17) (T1 32); let T3 := up T2 (a + 18) (T2 1); let T4 := up T3 (a + 19) (T3 6); up T4 115 (T4 115 + 1)) := by
  have e : ∀ k, k < 116 → lay2 (lay1 N a 4) a 6 k = N k := fun k hk => by unfold lay2 lay1; rw [if_neg (by omega), if_neg (by omega), if_neg (by omega)]
  show layR N a (N 115) = up (up (up (up (up (lay2 (lay1 N a 4) a 6) (a + 16) _) (a + 17) _) (a + 18) _) (a + 19) _) 115 _
  simp only [up_n _ _ (show 32 ≠ a + 16 by omega), up_n _ _ (show 1 ≠ a + 17 by omega), up_n _ _ (show 1 ≠ a + 16 by omega), up_n _ _ (show 6 ≠ a + 18 by omega), up_n _ _ (show 6 ≠ a + 17 by omega), up_n _ _ (show 6 ≠ a + 16 by omega), up_n _ _ (show 115 ≠ a + 19 by omega), up_n _ _ (show 115 ≠ a + 18 by omega), up_n _ _ (show 115 ≠ a + 17 by omega), up_n _ _ (show 115 ≠ a + 16 by omega), e 31 (by omega), e 32 (by omega), e 1 (by omega), e 6 (by omega), e 115 (by omega)]
  rfl
theorem sX12_keepPast (hm : RfL G C P m := by assumption) (hu : 0 ≤ I (m + 1) 115 ∧ I (m + 1) 115 ≤ 6 := by assumption) : SX12_keepPast G [.ref m] C I P L (NV C (XV (uR I (m + 1) (pastR (I (m + 1)))) P L)) := by
  obtain ⟨hBm, hKm, hK1, hK2, hK3, hK4, hK5, hK6, hK7, hK8, hK9, hK10, hK11, hP0, hP1, hP2, hP3, hP6, hP7, hP8, hP9, hP10, hP16, hP17⟩ := id hm
  refine en_V (by decide +kernel) (Nat.le_of_ble_eq_true rfl) ?_
  change Wd _ _ _ _ _ _ _ _ 0 [some _, none, none] [] _ _ _ _
  have tail : ∀ (N : Nat → Int) (a : Nat) (ai : Int) (w : Option Value), 116 ≤ a → a ≤ 216 → ai = (a : Int) → layR N a (N 115) = pastR (I (m + 1)) → Wd G yX12_keepPast cX12_keepPast 3 none 1 (C.2.1 + 0, C.2.2 + 0) (NV C (XV (uR I (m + 1) (pastR (I (m + 1)))) P L)) 67 [some (.ref m), some (.int (zI ai)), w] [] C (uR I (m + 1) N) P L := by
    intro N a ai w ha1 ha2 hai hfin
    have le := lay_end N ha1 ⟨_, rfl⟩
    have l2 : ∀ (n o : Nat) (i : Int), o + n = 6 → i = (o : Int) → Wd G yX12_keepPast cX12_keepPast 3 none 1 (C.2.1 + 0, C.2.2 + 0) (NV C (XV (uR I (m + 1) (pastR (I (m + 1)))) P L)) 98 [some (.ref m), some (.int (zI ai)), some (.int (zI i))] [] C (uR I (m + 1) (lay2 (lay1 N a 4) a o)) P L := by
      intro n
      induction n with
      | zero =>
        intro o i hd hi
        rw [show o = 6 by omega]
        refine r_iload_n (pc := 98) dX12_keepPast_98 rfl ?_
        refine r_bipush (pc := 99) dX12_keepPast_99 (by decide) ?_
        refine r_icmp_ge (pc := 101) 157 dX12_keepPast_101 (by decide) (by omega) (by omega) (fun h101 => ?_) (fun h101 => ?_)
        · skip
          refine r_aload_n (pc := 157) dX12_keepPast_157 rfl ?_
          refine r_getA (pc := 158) dX12_keepPast_158 frX12_7 (by assumption) (by assumption) ?_
          refine r_iload_n (pc := 161) dX12_keepPast_161 rfl ?_
          refine r_bipush (pc := 162) dX12_keepPast_162 (by decide) ?_
          refine r_iadd (pc := 164) dX12_keepPast_164 ?_
          refine r_aload_n (pc := 165) dX12_keepPast_165 rfl ?_
          refine r_getA (pc := 166) dX12_keepPast_166 frX12_7 (by assumption) (by assumption) ?_
          refine r_bipush (pc := 169) dX12_keepPast_169 (by decide) ?_
          refine r_iald (j := 31) (pc := 171) dX12_keepPast_171 (by assumption) rfl (by omega) (by omega) ?_
          try simp only [u2_I, uR_uR, uR_app, eq_self, Nat.reduceEqDiff, Nat.add_eq_left, Nat.left_eq_add, ↓reduceIte]
          refine r_iast (j := a + 16) (pc := 172) dX12_keepPast_172 (by assumption) (by omega) (by omega) (by omega) (by omega) ?_
          try simp only [u2_I, uR_uR, uR_app, eq_self, Nat.reduceEqDiff, Nat.add_eq_left, Nat.left_eq_add, ↓reduceIte]
          refine r_aload_n (pc := 173) dX12_keepPast_173 rfl ?_
          refine r_getA (pc := 174) dX12_keepPast_174 frX12_7 (by assumption) (by assumption) ?_
          refine r_iload_n (pc := 177) dX12_keepPast_177 rfl ?_
          refine r_bipush (pc := 178) dX12_keepPast_178 (by decide) ?_
          refine r_iadd (pc := 180) dX12_keepPast_180 ?_
          refine r_aload_n (pc := 181) dX12_keepPast_181 rfl ?_
          refine r_getA (pc := 182) dX12_keepPast_182 frX12_7 (by assumption) (by assumption) ?_
          refine r_bipush (pc := 185) dX12_keepPast_185 (by decide) ?_
          refine r_iald (j := 32) (pc := 187) dX12_keepPast_187 (by assumption) rfl (by omega) (by omega) ?_
          try simp only [u2_I, uR_uR, uR_app, eq_self, Nat.reduceEqDiff, Nat.add_eq_left, Nat.left_eq_add, ↓reduceIte]
          refine r_iast (j := a + 17) (pc := 188) dX12_keepPast_188 (by assumption) (by omega) (by omega) (by omega) (by omega) ?_
          try simp only [u2_I, uR_uR, uR_app, eq_self, Nat.reduceEqDiff, Nat.add_eq_left, Nat.left_eq_add, ↓reduceIte]
          refine r_aload_n (pc := 189) dX12_keepPast_189 rfl ?_
          refine r_getA (pc := 190) dX12_keepPast_190 frX12_7 (by assumption) (by assumption) ?_
          refine r_iload_n (pc := 193) dX12_keepPast_193 rfl ?_
          refine r_bipush (pc := 194) dX12_keepPast_194 (by decide) ?_
          refine r_iadd (pc := 196) dX12_keepPast_196 ?_
          refine r_aload_n (pc := 197) dX12_keepPast_197 rfl ?_
          refine r_getA (pc := 198) dX12_keepPast_198 frX12_7 (by assumption) (by assumption) ?_
          refine r_iconst (pc := 201) dX12_keepPast_201 ?_
          refine r_iald (j := 1) (pc := 202) dX12_keepPast_202 (by assumption) rfl (by omega) (by omega) ?_
          try simp only [u2_I, uR_uR, uR_app, eq_self, Nat.reduceEqDiff, Nat.add_eq_left, Nat.left_eq_add, ↓reduceIte]
          refine r_iast (j := a + 18) (pc := 203) dX12_keepPast_203 (by assumption) (by omega) (by omega) (by omega) (by omega) ?_
          try simp only [u2_I, uR_uR, uR_app, eq_self, Nat.reduceEqDiff, Nat.add_eq_left, Nat.left_eq_add, ↓reduceIte]
          refine r_aload_n (pc := 204) dX12_keepPast_204 rfl ?_
          refine r_getA (pc := 205) dX12_keepPast_205 frX12_7 (by assumption) (by assumption) ?_
          refine r_iload_n (pc := 208) dX12_keepPast_208 rfl ?_
          refine r_bipush (pc := 209) dX12_keepPast_209 (by decide) ?_
          refine r_iadd (pc := 211) dX12_keepPast_211 ?_
          refine r_aload_n (pc := 212) dX12_keepPast_212 rfl ?_
          refine i_V0ix (pc := 213) okX12_families inX12_families selX12_families q1118 dX12_keepPast_213 (by assumption) rfl (by decide) (Nat.le_of_ble_eq_true rfl) (sX12_families) ?_
          try simp only [u2_I, uR_uR, uR_app, eq_self, Nat.reduceEqDiff, Nat.add_eq_left, Nat.left_eq_add, ↓reduceIte]
          refine r_iast (j := a + 19) (pc := 216) dX12_keepPast_216 (by assumption) (by omega) (by omega) (by omega) (by omega) ?_
          try simp only [u2_I, uR_uR, uR_app, eq_self, Nat.reduceEqDiff, Nat.add_eq_left, Nat.left_eq_add, ↓reduceIte]
          refine r_aload_n (pc := 217) dX12_keepPast_217 rfl ?_
          refine r_getA (pc := 218) dX12_keepPast_218 frX12_7 (by assumption) (by assumption) ?_
          refine r_bipush (pc := 221) dX12_keepPast_221 (by decide) ?_
          refine r_dup2 (pc := 223) dX12_keepPast_223 rfl rfl ?_
          refine r_iald (j := 115) (pc := 224) dX12_keepPast_224 (by assumption) rfl (by omega) (by omega) ?_
          try simp only [u2_I, uR_uR, uR_app, eq_self, Nat.reduceEqDiff, Nat.add_eq_left, Nat.left_eq_add, ↓reduceIte]
          refine r_iconst (pc := 225) dX12_keepPast_225 ?_
          refine r_iadd (pc := 226) dX12_keepPast_226 ?_
          refine r_iast (j := 115) (pc := 227) dX12_keepPast_227 (by assumption) (by omega) rfl (by omega) (by omega) ?_
          try simp only [u2_I, uR_uR, uR_app, eq_self, Nat.reduceEqDiff, Nat.add_eq_left, Nat.left_eq_add, ↓reduceIte]
          refine t_vret (pc := 228) dX12_keepPast_228 rfl ?_
          exact ⟨by rw [← hfin, le], rfl, rfl⟩
        · exfalso; omega
      | succ n ih =>
        intro o i hd hi
        refine r_iload_n (pc := 98) dX12_keepPast_98 rfl ?_
        refine r_bipush (pc := 99) dX12_keepPast_99 (by decide) ?_
        refine r_icmp_ge (pc := 101) 157 dX12_keepPast_101 (by decide) (by omega) (by omega) (fun h101 => ?_) (fun h101 => ?_)
        · exfalso; omega
        · skip
          refine r_aload_n (pc := 104) dX12_keepPast_104 rfl ?_
          refine r_getA (pc := 105) dX12_keepPast_105 frX12_7 (by assumption) (by assumption) ?_
          refine r_iload_n (pc := 108) dX12_keepPast_108 rfl ?_
          refine r_iconst (pc := 109) dX12_keepPast_109 ?_
          refine r_iadd (pc := 110) dX12_keepPast_110 ?_
          refine r_iload_n (pc := 111) dX12_keepPast_111 rfl ?_
          refine r_iadd (pc := 112) dX12_keepPast_112 ?_
          refine r_aload_n (pc := 113) dX12_keepPast_113 rfl ?_
          refine r_getA (pc := 114) dX12_keepPast_114 frX12_7 (by assumption) (by assumption) ?_
          refine r_bipush (pc := 117) dX12_keepPast_117 (by decide) ?_
          refine r_iconst (pc := 119) dX12_keepPast_119 ?_
          refine r_iload_n (pc := 120) dX12_keepPast_120 rfl ?_
          refine r_imul (pc := 121) dX12_keepPast_121 ?_
          refine r_iadd (pc := 122) dX12_keepPast_122 ?_
          refine r_iconst (pc := 123) dX12_keepPast_123 ?_
          refine r_iadd (pc := 124) dX12_keepPast_124 ?_
          refine r_iald (j := 8 + 4 * o) (pc := 125) dX12_keepPast_125 (by assumption) (by omega) (by omega) (by omega) ?_
          try simp only [u2_I, uR_uR, uR_app, eq_self, Nat.reduceEqDiff, Nat.add_eq_left, Nat.left_eq_add, ↓reduceIte]
          refine r_iast (j := a + 4 + o) (pc := 126) dX12_keepPast_126 (by assumption) (by omega) (by omega) (by omega) (by omega) ?_
          try simp only [u2_I, uR_uR, uR_app, eq_self, Nat.reduceEqDiff, Nat.add_eq_left, Nat.left_eq_add, ↓reduceIte]
          refine r_aload_n (pc := 127) dX12_keepPast_127 rfl ?_
          refine r_getA (pc := 128) dX12_keepPast_128 frX12_7 (by assumption) (by assumption) ?_
          refine r_iload_n (pc := 131) dX12_keepPast_131 rfl ?_
          refine r_bipush (pc := 132) dX12_keepPast_132 (by decide) ?_
          refine r_iadd (pc := 134) dX12_keepPast_134 ?_
          refine r_iload_n (pc := 135) dX12_keepPast_135 rfl ?_
          refine r_iadd (pc := 136) dX12_keepPast_136 ?_
          refine r_aload_n (pc := 137) dX12_keepPast_137 rfl ?_
          refine r_getA (pc := 138) dX12_keepPast_138 frX12_7 (by assumption) (by assumption) ?_
          refine r_bipush (pc := 141) dX12_keepPast_141 (by decide) ?_
          refine r_iconst (pc := 143) dX12_keepPast_143 ?_
          refine r_iload_n (pc := 144) dX12_keepPast_144 rfl ?_
          refine r_imul (pc := 145) dX12_keepPast_145 ?_
          refine r_iadd (pc := 146) dX12_keepPast_146 ?_
          refine r_iconst (pc := 147) dX12_keepPast_147 ?_
          refine r_iadd (pc := 148) dX12_keepPast_148 ?_
          refine r_iald (j := 9 + 4 * o) (pc := 149) dX12_keepPast_149 (by assumption) (by omega) (by omega) (by omega) ?_
          try simp only [u2_I, uR_uR, uR_app, eq_self, Nat.reduceEqDiff, Nat.add_eq_left, Nat.left_eq_add, ↓reduceIte]
          refine r_iast (j := a + 10 + o) (pc := 150) dX12_keepPast_150 (by assumption) (by omega) (by omega) (by omega) (by omega) ?_
          try simp only [u2_I, uR_uR, uR_app, eq_self, Nat.reduceEqDiff, Nat.add_eq_left, Nat.left_eq_add, ↓reduceIte]
          refine r_iinc (pc := 151) dX12_keepPast_151 rfl ?_
          refine r_goto (pc := 154) 98 dX12_keepPast_154 (by decide) ?_
          rw [lay2_s _ ha1 (by omega)]
          exact ih (o + 1) _ (by omega) (by omega)
    have l1 : ∀ (n o : Nat) (i : Int), o + n = 4 → i = (o : Int) → Wd G yX12_keepPast cX12_keepPast 3 none 1 (C.2.1 + 0, C.2.2 + 0) (NV C (XV (uR I (m + 1) (pastR (I (m + 1)))) P L)) 69 [some (.ref m), some (.int (zI ai)), some (.int (zI i))] [] C (uR I (m + 1) (lay1 N a o)) P L := by
      intro n
      induction n with
      | zero =>
        intro o i hd hi
        rw [show o = 4 by omega]
        refine r_iload_n (pc := 69) dX12_keepPast_69 rfl ?_
        refine r_iconst (pc := 70) dX12_keepPast_70 ?_
        refine r_icmp_ge (pc := 71) 96 dX12_keepPast_71 (by decide) (by omega) (by omega) (fun h71 => ?_) (fun h71 => ?_)
        · skip
          refine r_iconst (pc := 96) dX12_keepPast_96 ?_
          refine r_istore_n (pc := 97) dX12_keepPast_97 (by decide) ?_
          have q := l2 6 0 0 (by omega) rfl
          rw [lay2_0] at q; exact q
        · exfalso; omega
      | succ n ih =>
        intro o i hd hi
        refine r_iload_n (pc := 69) dX12_keepPast_69 rfl ?_
        refine r_iconst (pc := 70) dX12_keepPast_70 ?_
        refine r_icmp_ge (pc := 71) 96 dX12_keepPast_71 (by decide) (by omega) (by omega) (fun h71 => ?_) (fun h71 => ?_)
        · exfalso; omega
        · skip
          refine r_aload_n (pc := 74) dX12_keepPast_74 rfl ?_
          refine r_getA (pc := 75) dX12_keepPast_75 frX12_7 (by assumption) (by assumption) ?_
          refine r_iload_n (pc := 78) dX12_keepPast_78 rfl ?_
          refine r_iload_n (pc := 79) dX12_keepPast_79 rfl ?_
          refine r_iadd (pc := 80) dX12_keepPast_80 ?_
          refine r_aload_n (pc := 81) dX12_keepPast_81 rfl ?_
          refine r_getA (pc := 82) dX12_keepPast_82 frX12_7 (by assumption) (by assumption) ?_
          refine r_iconst (pc := 85) dX12_keepPast_85 ?_
          refine r_iload_n (pc := 86) dX12_keepPast_86 rfl ?_
          refine r_iadd (pc := 87) dX12_keepPast_87 ?_
          refine r_iald (j := 2 + o) (pc := 88) dX12_keepPast_88 (by assumption) (by omega) (by omega) (by omega) ?_
          try simp only [u2_I, uR_uR, uR_app, eq_self, Nat.reduceEqDiff, Nat.add_eq_left, Nat.left_eq_add, ↓reduceIte]
          refine r_iast (j := a + o) (pc := 89) dX12_keepPast_89 (by assumption) (by omega) (by omega) (by omega) (by omega) ?_
          try simp only [u2_I, uR_uR, uR_app, eq_self, Nat.reduceEqDiff, Nat.add_eq_left, Nat.left_eq_add, ↓reduceIte]
          refine r_iinc (pc := 90) dX12_keepPast_90 rfl ?_
          refine r_goto (pc := 93) 69 dX12_keepPast_93 (by decide) ?_
          rw [lay1_s _ ha1 (by omega)]
          exact ih (o + 1) _ (by omega) (by omega)
    refine r_iconst (pc := 67) dX12_keepPast_67 ?_
    refine r_istore_n (pc := 68) dX12_keepPast_68 (by decide) ?_
    have q := l1 4 0 0 (by omega) rfl
    rw [lay1_0] at q; exact q
  have sft : I (m + 1) 115 = 6 → ∀ (n o : Nat) (i : Int), o + n = 100 → i = (o : Int) → Wd G yX12_keepPast cX12_keepPast 3 none 1 (C.2.1 + 0, C.2.2 + 0) (NV C (XV (uR I (m + 1) (pastR (I (m + 1)))) P L)) 14 [some (.ref m), some (.int (zI i)), none] [] C (uR I (m + 1) (sftR (I (m + 1)) o)) P L := by
    intro h6 n
    induction n with
    | zero =>
      intro o i hd hi
      rw [show o = 100 by omega]
      refine r_iload_n (pc := 14) dX12_keepPast_14 rfl ?_
      refine r_bipush (pc := 15) dX12_keepPast_15 (by decide) ?_
      refine r_icmp_ge (pc := 17) 45 dX12_keepPast_17 (by decide) (by omega) (by omega) (fun h17 => ?_) (fun h17 => ?_)
      · skip
        refine r_aload_n (pc := 45) dX12_keepPast_45 rfl ?_
        refine r_getA (pc := 46) dX12_keepPast_46 frX12_7 (by assumption) (by assumption) ?_
        refine r_bipush (pc := 49) dX12_keepPast_49 (by decide) ?_
        refine r_iconst (pc := 51) dX12_keepPast_51 ?_
        refine r_iast (j := 115) (pc := 52) dX12_keepPast_52 (by assumption) (by omega) rfl (by omega) (by omega) ?_
        try simp only [u2_I, uR_uR, uR_app, eq_self, Nat.reduceEqDiff, Nat.add_eq_left, Nat.left_eq_add, ↓reduceIte]
        refine r_bipush (pc := 53) dX12_keepPast_53 (by decide) ?_
        refine r_bipush (pc := 55) dX12_keepPast_55 (by decide) ?_
        refine r_aload_n (pc := 57) dX12_keepPast_57 rfl ?_
        refine r_getA (pc := 58) dX12_keepPast_58 frX12_7 (by assumption) (by assumption) ?_
        refine r_bipush (pc := 61) dX12_keepPast_61 (by decide) ?_
        refine r_iald (j := 115) (pc := 63) dX12_keepPast_63 (by assumption) rfl (by omega) (by omega) ?_
        try simp only [u2_I, uR_uR, uR_app, eq_self, Nat.reduceEqDiff, Nat.add_eq_left, Nat.left_eq_add, ↓reduceIte]
        rw [up_s]
        refine r_imul (pc := 64) dX12_keepPast_64 ?_
        refine r_iadd (pc := 65) dX12_keepPast_65 ?_
        refine r_istore_n (pc := 66) dX12_keepPast_66 (by decide) ?_
        refine tail (up (sftR (I (m + 1)) 100) 115 5) 216 _ _ (by omega) (by omega) (by omega) ?_
        rw [up_s]; unfold pastR; rw [if_pos h6]
      · exfalso; omega
    | succ n ih =>
      intro o i hd hi
      refine r_iload_n (pc := 14) dX12_keepPast_14 rfl ?_
      refine r_bipush (pc := 15) dX12_keepPast_15 (by decide) ?_
      refine r_icmp_ge (pc := 17) 45 dX12_keepPast_17 (by decide) (by omega) (by omega) (fun h17 => ?_) (fun h17 => ?_)
      · exfalso; omega
      · skip
        refine r_aload_n (pc := 20) dX12_keepPast_20 rfl ?_
        refine r_getA (pc := 21) dX12_keepPast_21 frX12_7 (by assumption) (by assumption) ?_
        refine r_bipush (pc := 24) dX12_keepPast_24 (by decide) ?_
        refine r_iload_n (pc := 26) dX12_keepPast_26 rfl ?_
        refine r_iadd (pc := 27) dX12_keepPast_27 ?_
        refine r_aload_n (pc := 28) dX12_keepPast_28 rfl ?_
        refine r_getA (pc := 29) dX12_keepPast_29 frX12_7 (by assumption) (by assumption) ?_
        refine r_sipush (pc := 32) dX12_keepPast_32 (by decide) ?_
        refine r_iload_n (pc := 35) dX12_keepPast_35 rfl ?_
        refine r_iadd (pc := 36) dX12_keepPast_36 ?_
        refine r_iald (j := 136 + o) (pc := 37) dX12_keepPast_37 (by assumption) (by omega) (by omega) (by omega) ?_
        try simp only [u2_I, uR_uR, uR_app, eq_self, Nat.reduceEqDiff, Nat.add_eq_left, Nat.left_eq_add, ↓reduceIte]
        refine r_iast (j := 116 + o) (pc := 38) dX12_keepPast_38 (by assumption) (by omega) (by omega) (by omega) (by omega) ?_
        try simp only [u2_I, uR_uR, uR_app, eq_self, Nat.reduceEqDiff, Nat.add_eq_left, Nat.left_eq_add, ↓reduceIte]
        refine r_iinc (pc := 39) dX12_keepPast_39 rfl ?_
        refine r_goto (pc := 42) 14 dX12_keepPast_42 (by decide) ?_
        rw [sft_s]
        exact ih (o + 1) _ (by omega) (by omega)
  refine r_aload_n (pc := 0) dX12_keepPast_0 rfl ?_
  refine r_getA (pc := 1) dX12_keepPast_1 frX12_7 (by assumption) (by assumption) ?_
  refine r_bipush (pc := 4) dX12_keepPast_4 (by decide) ?_
  refine r_iald (j := 115) (pc := 6) dX12_keepPast_6 (by assumption) rfl (by omega) (by omega) ?_
  refine r_bipush (pc := 7) dX12_keepPast_7 (by decide) ?_
  refine r_icmp_ne (pc := 9) 53 dX12_keepPast_9 (by decide) (by omega) (by omega) (fun h9 => ?_) (fun h9 => ?_)
  · skip
    refine r_bipush (pc := 53) dX12_keepPast_53 (by decide) ?_
    refine r_bipush (pc := 55) dX12_keepPast_55 (by decide) ?_
    refine r_aload_n (pc := 57) dX12_keepPast_57 rfl ?_
    refine r_getA (pc := 58) dX12_keepPast_58 frX12_7 (by assumption) (by assumption) ?_
    refine r_bipush (pc := 61) dX12_keepPast_61 (by decide) ?_
    refine r_iald (j := 115) (pc := 63) dX12_keepPast_63 (by assumption) rfl (by omega) (by omega) ?_
    refine r_imul (pc := 64) dX12_keepPast_64 ?_
    refine r_iadd (pc := 65) dX12_keepPast_65 ?_
    refine r_istore_n (pc := 66) dX12_keepPast_66 (by decide) ?_
    have q := tail (I (m + 1)) (116 + 20 * (I (m + 1) 115).toNat) (116 + 20 * I (m + 1) 115) none (by omega) (by omega) (by omega) (by unfold pastR; rw [if_neg h9])
    rw [uR_same] at q; exact q
  · skip
    refine r_iconst (pc := 12) dX12_keepPast_12 ?_
    refine r_istore_n (pc := 13) dX12_keepPast_13 (by decide) ?_
    have q := sft h9 100 0 0 (by omega) rfl
    rw [sft_0, uR_same] at q; exact q
def passR (N : Nat → Int) : Nat → Int × (Nat → Int)
  | 0 => (0, N)
  | n + 1 => ((passR N n).1 + wantF (pastR (passR N n).2) false, goF (pastR (passR N n).2) false)
theorem pass_st (N : Nat → Int) (n : Nat) : passR N (n + 1) = ((passR N n).1 + wantF (pastR (passR N n).2) false, goF (pastR (passR N n).2) false) := rfl
theorem pastR_115 (N : Nat → Int) (h : 0 ≤ N 115 ∧ N 115 ≤ 6) : 0 ≤ pastR N 115 ∧ pastR N 115 ≤ 6 := by
  unfold pastR
  split
  · unfold layR; rw [up_s]; omega
  · unfold layR; rw [up_s]; omega
theorem passR_in {N : Nat → Int} {Y : Int} (hF : FI N Y) (hu : 0 ≤ N 115 ∧ N 115 ≤ 6) : ∀ n : Nat, FI (passR N n).2 (Y + n) ∧ 0 ≤ (passR N n).2 115 ∧ (passR N n).2 115 ≤ 6 := by
  intro n
  induction n with
  | zero => exact ⟨by show FI N (Y + ((0 : Nat) : Int)); simpa using hF, hu.1, hu.2⟩
  | succ n ih =>
    have hp : FI (pastR (passR N n).2) (Y + n) := FI_k ih.1 (fun k hk => pastR_lo _ (by omega))
    have hq := pastR_115 _ ih.2
    rw [pass_st]
    refine ⟨?_, ?_⟩
    · rw [show Y + ((n + 1 : Nat) : Int) = Y + n + 1 by omega]; exact FI_go hp false
    · show 0 ≤ goF (pastR (passR N n).2) false 115 ∧ goF (pastR (passR N n).2) false 115 ≤ 6
      rw [go_hi _ _ (sizeF_le hp).1 115 (by omega)]; exact hq
def passM (T : RS) (n : Int) : Int × RS := if 1 ≤ n ∧ n ≤ 20 then ((passR T.1 n.toNat).1, zN T (passR T.1 n.toNat).2) else (-2, zB T)
theorem sX12_pass {n : Int} (hm : RfL G C P m := by assumption) (hF : FI (I (m + 1)) Y := by assumption) (hY : Y ≤ 900000 := by omega) (hu : 0 ≤ I (m + 1) 115 ∧ I (m + 1) 115 ≤ 6 := by assumption) (hn : iR n := by omega) : SX12_pass G [.ref m, .int (zI n)] C I P L (NI C (QZ m (passM (rdM m I L) n).1 (passM (rdM m I L) n).2 P)) := by
  obtain ⟨hBm, hKm, hK1, hK2, hK3, hK4, hK5, hK6, hK7, hK8, hK9, hK10, hK11, hP0, hP1, hP2, hP3, hP6, hP7, hP8, hP9, hP10, hP16, hP17⟩ := id hm
  refine en_I (by decide +kernel) (Nat.le_of_ble_eq_true rfl) ?_
  change Wd _ _ _ _ _ _ _ _ 0 [some _, some _, none, none] [] _ _ _ _
  have loop : (1 ≤ n ∧ n ≤ 20) → ∀ (d o : Nat) (i a : Int), o + d = n.toNat → i = (o : Int) → a = (passR (I (m + 1)) o).1 → Wd G yX12_pass cX12_pass 4 (some .int) 5 (C.2.1 + 0, C.2.2 + 0) (NI C (QZ m (passM (rdM m I L) n).1 (passM (rdM m I L) n).2 P)) 23 [some (.ref m), some (.int (zI n)), some (.int (zI a)), some (.int (zI i))] [] C (uR I (m + 1) (passR (I (m + 1)) o).2) P L := by
    intro hz d
    induction d with
    | zero =>
      intro o i a hd hi ha
      refine r_iload_n (pc := 23) dX12_pass_23 rfl ?_
      refine r_iload_n (pc := 24) dX12_pass_24 rfl ?_
      refine r_icmp_ge (pc := 25) 46 dX12_pass_25 (by decide) (by omega) (by omega) (fun h25 => ?_) (fun h25 => ?_)
      · skip
        refine r_iload_n (pc := 46) dX12_pass_46 rfl ?_
        refine t_iret (pc := 47) dX12_pass_47 rfl rfl ?_
        unfold passM
        rw [if_pos hz]
        refine ⟨by rw [ha, show o = n.toNat by omega]; rfl, ?_, rfl⟩
        rw [rdM_N, show o = n.toNat by omega]; rfl
      · exfalso; omega
    | succ d ih =>
      intro o i a hd hi ha
      obtain ⟨p1, p2⟩ := passR_in hF hu o
      have hst := pass_st (I (m + 1)) o
      have hpF : FI (pastR (passR (I (m + 1)) o).2) (Y + o) := FI_k p1 (fun k hk => pastR_lo _ (by omega))
      have e1 : (passR (I (m + 1)) (o + 1)).1 = a + wantF (pastR (passR (I (m + 1)) o).2) false := by rw [hst, ← ha]
      have e2 : (passR (I (m + 1)) (o + 1)).2 = goF (pastR (passR (I (m + 1)) o).2) false := by rw [hst]
      generalize hN : (passR (I (m + 1)) o).2 = N at p1 p2 hpF e1 e2 ⊢
      have hu2 : 0 ≤ (uR I (m + 1) N) (m + 1) 115 ∧ (uR I (m + 1) N) (m + 1) 115 ≤ 6 := by rw [uR_s]; exact p2
      refine r_iload_n (pc := 23) dX12_pass_23 rfl ?_
      refine r_iload_n (pc := 24) dX12_pass_24 rfl ?_
      refine r_icmp_ge (pc := 25) 46 dX12_pass_25 (by decide) (by omega) (by omega) (fun h25 => ?_) (fun h25 => ?_)
      · exfalso; omega
      · skip
        refine r_aload_n (pc := 28) dX12_pass_28 rfl ?_
        refine i_V0vx (pc := 29) okX12_keepPast inX12_keepPast selX12_keepPast q1145 dX12_pass_29 (by assumption) rfl (by decide) (Nat.le_of_ble_eq_true rfl) (sX12_keepPast (hu := hu2)) ?_
        try simp only [u2_I, uR_uR, uR_app, eq_self, Nat.reduceEqDiff, Nat.add_eq_left, Nat.left_eq_add, ↓reduceIte]
        refine r_iload_n (pc := 32) dX12_pass_32 rfl ?_
        refine r_aload_n (pc := 33) dX12_pass_33 rfl ?_
        refine r_iconst (pc := 34) dX12_pass_34 ?_
        refine i_V1ix (pc := 35) okX12_goYear inX12_goYear selX12_goYear q1149 dX12_pass_35 (by assumption) rfl (by decide) (Nat.le_of_ble_eq_true rfl) (sX12_goYear (bad := false) (Y := Y + o)) ?_
        try simp only [u2_I, uR_uR, uR_app, eq_self, Nat.reduceEqDiff, Nat.add_eq_left, Nat.left_eq_add, ↓reduceIte]
        refine r_iadd (pc := 38) dX12_pass_38 ?_
        refine r_istore_n (pc := 39) dX12_pass_39 (by decide) ?_
        refine r_iinc (pc := 40) dX12_pass_40 rfl ?_
        refine r_goto (pc := 43) 23 dX12_pass_43 (by decide) ?_
        rw [← e1, ← e2]
        exact ih (o + 1) _ _ (by omega) (by omega) rfl
  refine r_iload_n (pc := 0) dX12_pass_0 rfl ?_
  refine r_i2l (pc := 1) dX12_pass_1 (by first | omega | (split <;> decide)) ?_
  refine r_lconst (v := 1) (pc := 2) dX12_pass_2 (by decide) ?_
  refine r_ldc2_w (v := (20 : Int)) (pc := 3) dX12_pass_3 kcX12_74 ?_
  refine i_S3ix (pc := 6) okX12_in staX12_in q1098 dX12_pass_6 (by decide) (Nat.le_of_ble_eq_true rfl) (sX12_in) ?_
  refine r_if_ne (pc := 9) 19 dX12_pass_9 (by decide) (by first | omega | (split <;> decide)) (fun h9 => ?_) (fun h9 => ?_)
  · skip
    refine r_iconst (pc := 19) dX12_pass_19 ?_
    refine r_istore_n (pc := 20) dX12_pass_20 (by decide) ?_
    refine r_iconst (pc := 21) dX12_pass_21 ?_
    refine r_istore_n (pc := 22) dX12_pass_22 (by decide) ?_
    have hz := wt h9
    have q := loop hz n.toNat 0 0 0 (by omega) rfl rfl
    rw [show (passR (I (m + 1)) 0).2 = I (m + 1) from rfl, uR_same] at q
    exact q
  · skip
    refine r_aload_n (pc := 12) dX12_pass_12 rfl ?_
    refine r_bipush (pc := 13) dX12_pass_13 (by decide) ?_
    refine i_V1ix (pc := 15) okX12_bad inX12_bad selX12_bad q1101 dX12_pass_15 (by assumption) rfl (by decide) (Nat.le_of_ble_eq_true rfl) (sX12_bad) ?_
    refine t_iret (pc := 18) dX12_pass_18 rfl rfl ?_
    unfold passM
    rw [if_neg (wf h9)]
    exact QZ_bad
def undoM (T : RS) : Int × RS := if T.1 115 = 0 then (-3, zO T) else (1, zN T (undoR T.1))
def un1 (N : Nat → Int) (a f : Nat) : Nat → Int := fun x => if 2 ≤ x ∧ x < 2 + f then N (a + (x - 2)) else N x
def un2 (N : Nat → Int) (a f : Nat) : Nat → Int := fun x => if 7 ≤ x ∧ x < 7 + 4 * f ∧ x % 4 = 0 then N (a + 4 + (x - 8) / 4) else if 7 ≤ x ∧ x < 7 + 4 * f ∧ x % 4 = 1 then N (a + 10 + (x - 9) / 4) else N x
theorem un1_s (N : Nat → Int) {a f : Nat} (ha : 116 ≤ a) (hf : f < 4) : up (un1 N a f) (2 + f) (un1 N a f (a + f)) = un1 N a (f + 1) := by
  funext x
  rw [up_app]
  by_cases h0 : x = 2 + f
  · rw [if_pos h0]; unfold un1; rw [if_neg (by omega), if_pos (by omega), h0]; congr 1; omega
  · rw [if_neg h0]; unfold un1
    by_cases h1 : 2 ≤ x ∧ x < 2 + f
    · rw [if_pos h1, if_pos (by omega)]
    · rw [if_neg h1, if_neg (by omega)]
theorem un2_s (N : Nat → Int) {a f : Nat} (ha : 116 ≤ a) (hf : f < 6) : up (up (un2 N a f) (8 + 4 * f) (un2 N a f (a + 4 + f))) (9 + 4 * f) (up (un2 N a f) (8 + 4 * f) (un2 N a f (a + 4 + f)) (a + 10 + f)) = un2 N a (f + 1) := by
  have e8 : un2 N a f (a + 4 + f) = N (a + 4 + f) := by unfold un2; rw [if_neg (by omega), if_neg (by omega)]
  have e9 : up (un2 N a f) (8 + 4 * f) (un2 N a f (a + 4 + f)) (a + 10 + f) = N (a + 10 + f) := by rw [up_n _ _ (by omega)]; unfold un2; rw [if_neg (by omega), if_neg (by omega)]
  rw [e9, e8]
  funext x
  rw [up_app, up_app]
  by_cases h0 : x = 9 + 4 * f
  · rw [if_pos h0]; unfold un2; rw [if_neg (by omega), if_pos (by omega), h0]; congr 1; omega
  · rw [if_neg h0]
    by_cases h1 : x = 8 + 4 * f
    · rw [if_pos h1]; unfold un2; rw [if_pos (by omega), h1]; congr 1; omega
    · rw [if_neg h1]; unfold un2
      by_cases h2 : 7 ≤ x ∧ x < 7 + 4 * f ∧ x % 4 = 0
      · rw [if_pos h2, if_pos (by omega)]
      · rw [if_neg h2]
        by_cases h3 : 7 ≤ x ∧ x < 7 + 4 * f ∧ x % 4 = 1
        · rw [if_pos h3, if_neg (show ¬ (7 ≤ x ∧ x < 7 + 4 * (f + 1) ∧ x % 4 = 0) by omega), if_pos (by omega)]
        · rw [if_neg h3, if_neg (show ¬ (7 ≤ x ∧ x < 7 + 4 * (f + 1) ∧ x % 4 = 0) by omega), if_neg (by omega)]
theorem un_end (N : Nat → Int) {a : Nat} (r : Int) (ha : 116 ≤ a) (hs : sizeF (pF N a) ≤ 6) : up (up (up (un2 (un1 (up N 115 r) a 4) a (sizeF (pF N a))) 31 (N (a + 16))) 32 (N (a + 17))) 1 (N (a + 18)) = up (bakF N (pF N a)) 115 r := by
  funext x
  simp only [up_app, bakF_app, un2, un1]
  generalize sizeF (pF N a) = s at hs ⊢
  unfold pF
  by_cases h1 : x = 1
  · subst h1; simp
  by_cases h32 : x = 32
  · subst h32; simp
  by_cases h31 : x = 31
  · subst h31; simp
  have q0 : x ≠ 115 → ¬ (2 ≤ x ∧ x ≤ 5) → ¬ (7 ≤ x ∧ x < 7 + 4 * s ∧ x % 4 = 0) → ¬ (7 ≤ x ∧ x < 7 + 4 * s ∧ x % 4 = 1) → ¬ ((1 ≤ x ∧ x ≤ 5) ∨ x = 31 ∨ x = 32 ∨ (7 ≤ x ∧ x < 7 + 4 * s ∧ (x % 4 = 0 ∨ x % 4 = 1))) := fun _ _ _ _ => by omega
  by_cases h115 : x = 115
  · have q1 : ¬ (7 ≤ x ∧ x < 7 + 4 * s ∧ x % 4 = 0) := by omega
    have q2 : ¬ (7 ≤ x ∧ x < 7 + 4 * s ∧ x % 4 = 1) := by omega
    have q3 : ¬ (2 ≤ x ∧ x < 2 + 4) := by omega
    simp only [if_neg h1, if_neg h32, if_neg h31, if_neg q1, if_neg q2, if_neg q3, if_pos h115]
  by_cases h25 : 2 ≤ x ∧ x ≤ 5
  · have q1 : ¬ (7 ≤ x ∧ x < 7 + 4 * s ∧ x % 4 = 0) := by omega
    have q2 : ¬ (7 ≤ x ∧ x < 7 + 4 * s ∧ x % 4 = 1) := by omega
    have q3 : 2 ≤ x ∧ x < 2 + 4 := by omega
    have q4 : ¬ (a + (x - 2) = 115) := by omega
    have q5 : (1 ≤ x ∧ x ≤ 5) ∨ x = 31 ∨ x = 32 ∨ (7 ≤ x ∧ x < 7 + 4 * s ∧ (x % 4 = 0 ∨ x % 4 = 1)) := by omega
    have q6 : ¬ (x = 0) := by omega
    simp only [if_neg h1, if_neg h32, if_neg h31, if_neg q1, if_neg q2, if_pos q3, if_neg q4, if_neg h115, if_pos q5, if_neg q6, if_pos h25]
  have q6 : x = 0 → False ∨ x = 0 := fun h => Or.inr h
  by_cases h8 : 7 ≤ x ∧ x < 7 + 4 * s ∧ x % 4 = 0
  · have q4 : ¬ (2 ≤ a + 4 + (x - 8) / 4 ∧ a + 4 + (x - 8) / 4 < 2 + 4) := by omega
    have q5 : ¬ (a + 4 + (x - 8) / 4 = 115) := by omega
    have q7 : (1 ≤ x ∧ x ≤ 5) ∨ x = 31 ∨ x = 32 ∨ (7 ≤ x ∧ x < 7 + 4 * s ∧ (x % 4 = 0 ∨ x % 4 = 1)) := by omega
    have q8 : ¬ (x = 0) := by omega
    have q9 : ¬ (x = 6) := by omega
    have q10 : 7 ≤ x ∧ x < 31 ∧ x % 4 = 0 := by omega
    simp only [if_neg h1, if_neg h32, if_neg h31, if_pos h8, if_neg q4, if_neg q5, if_neg h115, if_pos q7, if_neg q8, if_neg q9, if_neg h25, if_pos q10]
  by_cases h9 : 7 ≤ x ∧ x < 7 + 4 * s ∧ x % 4 = 1
  · have q4 : ¬ (2 ≤ a + 10 + (x - 9) / 4 ∧ a + 10 + (x - 9) / 4 < 2 + 4) := by omega
    have q5 : ¬ (a + 10 + (x - 9) / 4 = 115) := by omega
    have q7 : (1 ≤ x ∧ x ≤ 5) ∨ x = 31 ∨ x = 32 ∨ (7 ≤ x ∧ x < 7 + 4 * s ∧ (x % 4 = 0 ∨ x % 4 = 1)) := by omega
    have q8 : ¬ (x = 0) := by omega
    have q9 : ¬ (x = 6) := by omega
    have q10 : ¬ (7 ≤ x ∧ x < 31 ∧ x % 4 = 0) := by omega
    have q11 : 7 ≤ x ∧ x < 31 ∧ x % 4 = 1 := by omega
    simp only [if_neg h1, if_neg h32, if_neg h31, if_neg h8, if_pos h9, if_neg q4, if_neg q5, if_neg h115, if_pos q7, if_neg q8, if_neg q9, if_neg h25, if_neg q10, if_pos q11]
  have q3 : ¬ (2 ≤ x ∧ x < 2 + 4) := by omega
  have q7 := q0 h115 h25 h8 h9
  simp only [if_neg h1, if_neg h32, if_neg h31, if_neg h8, if_neg h9, if_neg q3, if_neg h115, if_neg q7]
theorem sX12_undo (hm : RfL G C P m := by assumption) (hu : 0 ≤ I (m + 1) 115 ∧ I (m + 1) 115 ≤ 6 := by assumption) (hpF : ¬ I (m + 1) 115 = 0 → FI (pF (I (m + 1)) (116 + 20 * (I (m + 1) 115 - 1).toNat)) Y := by assumption) : SX12_undo G [.ref m] C I P L (NI C (QZ m (undoM (rdM m I L)).1 (undoM (rdM m I L)).2 P)) := by
  obtain ⟨hBm, hKm, hK1, hK2, hK3, hK4, hK5, hK6, hK7, hK8, hK9, hK10, hK11, hP0, hP1, hP2, hP3, hP6, hP7, hP8, hP9, hP10, hP16, hP17⟩ := id hm
  refine en_I (by decide +kernel) (Nat.le_of_ble_eq_true rfl) ?_
  change Wd _ _ _ _ _ _ _ _ 0 [some _, none, none] [] _ _ _ _
  have main : ¬ I (m + 1) 115 = 0 → ∀ (a : Nat) (ai r : Int) (w : Option Value), a = 116 + 20 * (I (m + 1) 115 - 1).toNat → ai = (a : Int) → r = I (m + 1) 115 - 1 → Wd G yX12_undo cX12_undo 3 (some .int) 1 (C.2.1 + 0, C.2.2 + 0) (NI C (QZ m (undoM (rdM m I L)).1 (undoM (rdM m I L)).2 P)) 40 [some (.ref m), some (.int (zI ai)), w] [] C (uR I (m + 1) (up (I (m + 1)) 115 r)) P L := by
    intro hne a ai r w ha hai hr
    have hp := hpF hne
    rw [← ha] at hp
    obtain ⟨hs6, hsz⟩ := sizeF_le hp
    have e19 : pF (I (m + 1)) a 6 = I (m + 1) (a + 19) := rfl
    rw [e19] at hsz
    have hfin : undoM (rdM m I L) = (1, zN (rdM m I L) (up (bakF (I (m + 1)) (pF (I (m + 1)) a)) 115 r)) := by
      unfold undoM; rw [rdM_1, if_neg hne, ha, hr]; rfl
    rw [hfin, ← un_end (I (m + 1)) r (by omega) hs6]
    have hN : ∀ k, 116 ≤ k → un2 (un1 (up (I (m + 1)) 115 r) a 4) a (sizeF (pF (I (m + 1)) a)) k = I (m + 1) k := fun k hk => by
      unfold un2 un1; rw [if_neg (by omega), if_neg (by omega), if_neg (by omega), up_n _ _ (by omega)]
    have l2 : ∀ (n o : Nat) (i : Int), o + n = sizeF (pF (I (m + 1)) a) → i = (o : Int) → Wd G yX12_undo cX12_undo 3 (some .int) 1 (C.2.1 + 0, C.2.2 + 0) (NI C (QZ m (1, zN (rdM m I L) (up (up (up (un2 (un1 (up (I (m + 1)) 115 r) a 4) a (sizeF (pF (I (m + 1)) a))) 31 (I (m + 1) (a + 16))) 32 (I (m + 1) (a + 17))) 1 (I (m + 1) (a + 18)))).1 (1, zN (rdM m I L) (up (up (up (un2 (un1 (up (I (m + 1)) 115 r) a 4) a (sizeF (pF (I (m + 1)) a))) 31 (I (m + 1) (a + 16))) 32 (I (m + 1) (a + 17))) 1 (I (m + 1) (a + 18)))).2 P)) 71 [some (.ref m), some (.int (zI ai)), some (.int (zI i))] [] C (uR I (m + 1) (un2 (un1 (up (I (m + 1)) 115 r) a 4) a o)) P L := by
      intro n
      induction n with
      | zero =>
        intro o i hd hi
        have h19 : un2 (un1 (up (I (m + 1)) 115 r) a 4) a o (a + 19) = I (m + 1) (a + 19) := by rw [show o = sizeF (pF (I (m + 1)) a) by omega]; exact hN _ (by omega)
        have q16 := hN (a + 16) (by omega)
        have q17 := hN (a + 17) (by omega)
        have q18 := hN (a + 18) (by omega)
        refine r_iload_n (pc := 71) dX12_undo_71 rfl ?_
        refine r_aload_n (pc := 72) dX12_undo_72 rfl ?_
        refine r_getA (pc := 73) dX12_undo_73 frX12_7 (by assumption) (by assumption) ?_
        refine r_iload_n (pc := 76) dX12_undo_76 rfl ?_
        refine r_bipush (pc := 77) dX12_undo_77 (by decide) ?_
        refine r_iadd (pc := 79) dX12_undo_79 ?_
        refine r_iald (j := a + 19) (pc := 80) dX12_undo_80 (by assumption) (by omega) (by omega) (by omega) ?_
        try simp only [u2_I, uR_uR, uR_app, eq_self, Nat.reduceEqDiff, Nat.add_eq_left, Nat.left_eq_add, ↓reduceIte]
        rw [h19]
        refine r_icmp_ge (pc := 81) 137 dX12_undo_81 (by decide) (by omega) (by omega) (fun h81 => ?_) (fun h81 => ?_)
        · skip
          rw [show o = sizeF (pF (I (m + 1)) a) by omega]
          refine r_aload_n (pc := 137) dX12_undo_137 rfl ?_
          refine r_getA (pc := 138) dX12_undo_138 frX12_7 (by assumption) (by assumption) ?_
          refine r_bipush (pc := 141) dX12_undo_141 (by decide) ?_
          refine r_aload_n (pc := 143) dX12_undo_143 rfl ?_
          refine r_getA (pc := 144) dX12_undo_144 frX12_7 (by assumption) (by assumption) ?_
          refine r_iload_n (pc := 147) dX12_undo_147 rfl ?_
          refine r_bipush (pc := 148) dX12_undo_148 (by decide) ?_
          refine r_iadd (pc := 150) dX12_undo_150 ?_
          refine r_iald (j := a + 16) (pc := 151) dX12_undo_151 (by assumption) (by omega) (by omega) (by omega) ?_
          try simp only [u2_I, uR_uR, uR_app, eq_self, Nat.reduceEqDiff, Nat.add_eq_left, Nat.left_eq_add, ↓reduceIte]
          rw [q16]
          refine r_iast (j := 31) (pc := 152) dX12_undo_152 (by assumption) (by omega) rfl (by omega) (by omega) ?_
          try simp only [u2_I, uR_uR, uR_app, eq_self, Nat.reduceEqDiff, Nat.add_eq_left, Nat.left_eq_add, ↓reduceIte]
          refine r_aload_n (pc := 153) dX12_undo_153 rfl ?_
          refine r_getA (pc := 154) dX12_undo_154 frX12_7 (by assumption) (by assumption) ?_
          refine r_bipush (pc := 157) dX12_undo_157 (by decide) ?_
          refine r_aload_n (pc := 159) dX12_undo_159 rfl ?_
          refine r_getA (pc := 160) dX12_undo_160 frX12_7 (by assumption) (by assumption) ?_
          refine r_iload_n (pc := 163) dX12_undo_163 rfl ?_
          refine r_bipush (pc := 164) dX12_undo_164 (by decide) ?_
          refine r_iadd (pc := 166) dX12_undo_166 ?_
          refine r_iald (j := a + 17) (pc := 167) dX12_undo_167 (by assumption) (by omega) (by omega) (by omega) ?_
          try simp only [u2_I, uR_uR, uR_app, eq_self, Nat.reduceEqDiff, Nat.add_eq_left, Nat.left_eq_add, ↓reduceIte]
          rw [up_n _ _ (show a + 17 ≠ 31 by omega), q17]
          refine r_iast (j := 32) (pc := 168) dX12_undo_168 (by assumption) (by omega) rfl (by omega) (by omega) ?_
          try simp only [u2_I, uR_uR, uR_app, eq_self, Nat.reduceEqDiff, Nat.add_eq_left, Nat.left_eq_add, ↓reduceIte]
          refine r_aload_n (pc := 169) dX12_undo_169 rfl ?_
          refine r_getA (pc := 170) dX12_undo_170 frX12_7 (by assumption) (by assumption) ?_
          refine r_iconst (pc := 173) dX12_undo_173 ?_
          refine r_aload_n (pc := 174) dX12_undo_174 rfl ?_
          refine r_getA (pc := 175) dX12_undo_175 frX12_7 (by assumption) (by assumption) ?_
          refine r_iload_n (pc := 178) dX12_undo_178 rfl ?_
          refine r_bipush (pc := 179) dX12_undo_179 (by decide) ?_
          refine r_iadd (pc := 181) dX12_undo_181 ?_
          refine r_iald (j := a + 18) (pc := 182) dX12_undo_182 (by assumption) (by omega) (by omega) (by omega) ?_
          try simp only [u2_I, uR_uR, uR_app, eq_self, Nat.reduceEqDiff, Nat.add_eq_left, Nat.left_eq_add, ↓reduceIte]
          rw [up_n _ _ (show a + 18 ≠ 32 by omega), up_n _ _ (show a + 18 ≠ 31 by omega), q18]
          refine r_iast (j := 1) (pc := 183) dX12_undo_183 (by assumption) (by omega) rfl (by omega) (by omega) ?_
          try simp only [u2_I, uR_uR, uR_app, eq_self, Nat.reduceEqDiff, Nat.add_eq_left, Nat.left_eq_add, ↓reduceIte]
          refine r_iconst (pc := 184) dX12_undo_184 ?_
          refine t_iret (pc := 185) dX12_undo_185 rfl rfl ?_
          exact ⟨rfl, rdM_N m I L _, rfl⟩
        · exfalso; omega
      | succ n ih =>
        intro o i hd hi
        have h19 : un2 (un1 (up (I (m + 1)) 115 r) a 4) a o (a + 19) = I (m + 1) (a + 19) := by
          unfold un2 un1; rw [if_neg (by omega), if_neg (by omega), if_neg (by omega), up_n _ _ (by omega)]
        refine r_iload_n (pc := 71) dX12_undo_71 rfl ?_
        refine r_aload_n (pc := 72) dX12_undo_72 rfl ?_
        refine r_getA (pc := 73) dX12_undo_73 frX12_7 (by assumption) (by assumption) ?_
        refine r_iload_n (pc := 76) dX12_undo_76 rfl ?_
        refine r_bipush (pc := 77) dX12_undo_77 (by decide) ?_
        refine r_iadd (pc := 79) dX12_undo_79 ?_
        refine r_iald (j := a + 19) (pc := 80) dX12_undo_80 (by assumption) (by omega) (by omega) (by omega) ?_
        try simp only [u2_I, uR_uR, uR_app, eq_self, Nat.reduceEqDiff, Nat.add_eq_left, Nat.left_eq_add, ↓reduceIte]
        rw [h19]
        refine r_icmp_ge (pc := 81) 137 dX12_undo_81 (by decide) (by omega) (by omega) (fun h81 => ?_) (fun h81 => ?_)
        · exfalso; omega
        · skip
          refine r_aload_n (pc := 84) dX12_undo_84 rfl ?_
          refine r_getA (pc := 85) dX12_undo_85 frX12_7 (by assumption) (by assumption) ?_
          refine r_bipush (pc := 88) dX12_undo_88 (by decide) ?_
          refine r_iconst (pc := 90) dX12_undo_90 ?_
          refine r_iload_n (pc := 91) dX12_undo_91 rfl ?_
          refine r_imul (pc := 92) dX12_undo_92 ?_
          refine r_iadd (pc := 93) dX12_undo_93 ?_
          refine r_iconst (pc := 94) dX12_undo_94 ?_
          refine r_iadd (pc := 95) dX12_undo_95 ?_
          refine r_aload_n (pc := 96) dX12_undo_96 rfl ?_
          refine r_getA (pc := 97) dX12_undo_97 frX12_7 (by assumption) (by assumption) ?_
          refine r_iload_n (pc := 100) dX12_undo_100 rfl ?_
          refine r_iconst (pc := 101) dX12_undo_101 ?_
          refine r_iadd (pc := 102) dX12_undo_102 ?_
          refine r_iload_n (pc := 103) dX12_undo_103 rfl ?_
          refine r_iadd (pc := 104) dX12_undo_104 ?_
          refine r_iald (j := a + 4 + o) (pc := 105) dX12_undo_105 (by assumption) (by omega) (by omega) (by omega) ?_
          try simp only [u2_I, uR_uR, uR_app, eq_self, Nat.reduceEqDiff, Nat.add_eq_left, Nat.left_eq_add, ↓reduceIte]
          refine r_iast (j := 8 + 4 * o) (pc := 106) dX12_undo_106 (by assumption) (by omega) (by omega) (by omega) (by omega) ?_
          try simp only [u2_I, uR_uR, uR_app, eq_self, Nat.reduceEqDiff, Nat.add_eq_left, Nat.left_eq_add, ↓reduceIte]
          refine r_aload_n (pc := 107) dX12_undo_107 rfl ?_
          refine r_getA (pc := 108) dX12_undo_108 frX12_7 (by assumption) (by assumption) ?_
          refine r_bipush (pc := 111) dX12_undo_111 (by decide) ?_
          refine r_iconst (pc := 113) dX12_undo_113 ?_
          refine r_iload_n (pc := 114) dX12_undo_114 rfl ?_
          refine r_imul (pc := 115) dX12_undo_115 ?_
          refine r_iadd (pc := 116) dX12_undo_116 ?_
          refine r_iconst (pc := 117) dX12_undo_117 ?_
          refine r_iadd (pc := 118) dX12_undo_118 ?_
          refine r_aload_n (pc := 119) dX12_undo_119 rfl ?_
          refine r_getA (pc := 120) dX12_undo_120 frX12_7 (by assumption) (by assumption) ?_
          refine r_iload_n (pc := 123) dX12_undo_123 rfl ?_
          refine r_bipush (pc := 124) dX12_undo_124 (by decide) ?_
          refine r_iadd (pc := 126) dX12_undo_126 ?_
          refine r_iload_n (pc := 127) dX12_undo_127 rfl ?_
          refine r_iadd (pc := 128) dX12_undo_128 ?_
          refine r_iald (j := a + 10 + o) (pc := 129) dX12_undo_129 (by assumption) (by omega) (by omega) (by omega) ?_
          try simp only [u2_I, uR_uR, uR_app, eq_self, Nat.reduceEqDiff, Nat.add_eq_left, Nat.left_eq_add, ↓reduceIte]
          refine r_iast (j := 9 + 4 * o) (pc := 130) dX12_undo_130 (by assumption) (by omega) (by omega) (by omega) (by omega) ?_
          try simp only [u2_I, uR_uR, uR_app, eq_self, Nat.reduceEqDiff, Nat.add_eq_left, Nat.left_eq_add, ↓reduceIte]
          refine r_iinc (pc := 131) dX12_undo_131 rfl ?_
          refine r_goto (pc := 134) 71 dX12_undo_134 (by decide) ?_
          rw [un2_s _ (by omega) (by omega)]
          exact ih (o + 1) _ (by omega) (by omega)
    have l1 : ∀ (n o : Nat) (i : Int), o + n = 4 → i = (o : Int) → Wd G yX12_undo cX12_undo 3 (some .int) 1 (C.2.1 + 0, C.2.2 + 0) (NI C (QZ m (1, zN (rdM m I L) (up (up (up (un2 (un1 (up (I (m + 1)) 115 r) a 4) a (sizeF (pF (I (m + 1)) a))) 31 (I (m + 1) (a + 16))) 32 (I (m + 1) (a + 17))) 1 (I (m + 1) (a + 18)))).1 (1, zN (rdM m I L) (up (up (up (un2 (un1 (up (I (m + 1)) 115 r) a 4) a (sizeF (pF (I (m + 1)) a))) 31 (I (m + 1) (a + 16))) 32 (I (m + 1) (a + 17))) 1 (I (m + 1) (a + 18)))).2 P)) 42 [some (.ref m), some (.int (zI ai)), some (.int (zI i))] [] C (uR I (m + 1) (un1 (up (I (m + 1)) 115 r) a o)) P L := by
      intro n
      induction n with
      | zero =>
        intro o i hd hi
        rw [show o = 4 by omega]
        refine r_iload_n (pc := 42) dX12_undo_42 rfl ?_
        refine r_iconst (pc := 43) dX12_undo_43 ?_
        refine r_icmp_ge (pc := 44) 69 dX12_undo_44 (by decide) (by omega) (by omega) (fun h44 => ?_) (fun h44 => ?_)
        · skip
          refine r_iconst (pc := 69) dX12_undo_69 ?_
          refine r_istore_n (pc := 70) dX12_undo_70 (by decide) ?_
          have q := l2 (sizeF (pF (I (m + 1)) a)) 0 0 (by omega) rfl
          rw [show un2 (un1 (up (I (m + 1)) 115 r) a 4) a 0 = un1 (up (I (m + 1)) 115 r) a 4 by funext x; unfold un2; rw [if_neg (by omega), if_neg (by omega)]] at q
          exact q
        · exfalso; omega
      | succ n ih =>
        intro o i hd hi
        refine r_iload_n (pc := 42) dX12_undo_42 rfl ?_
        refine r_iconst (pc := 43) dX12_undo_43 ?_
        refine r_icmp_ge (pc := 44) 69 dX12_undo_44 (by decide) (by omega) (by omega) (fun h44 => ?_) (fun h44 => ?_)
        · exfalso; omega
        · skip
          refine r_aload_n (pc := 47) dX12_undo_47 rfl ?_
          refine r_getA (pc := 48) dX12_undo_48 frX12_7 (by assumption) (by assumption) ?_
          refine r_iconst (pc := 51) dX12_undo_51 ?_
          refine r_iload_n (pc := 52) dX12_undo_52 rfl ?_
          refine r_iadd (pc := 53) dX12_undo_53 ?_
          refine r_aload_n (pc := 54) dX12_undo_54 rfl ?_
          refine r_getA (pc := 55) dX12_undo_55 frX12_7 (by assumption) (by assumption) ?_
          refine r_iload_n (pc := 58) dX12_undo_58 rfl ?_
          refine r_iload_n (pc := 59) dX12_undo_59 rfl ?_
          refine r_iadd (pc := 60) dX12_undo_60 ?_
          refine r_iald (j := a + o) (pc := 61) dX12_undo_61 (by assumption) (by omega) (by omega) (by omega) ?_
          try simp only [u2_I, uR_uR, uR_app, eq_self, Nat.reduceEqDiff, Nat.add_eq_left, Nat.left_eq_add, ↓reduceIte]
          refine r_iast (j := 2 + o) (pc := 62) dX12_undo_62 (by assumption) (by omega) (by omega) (by omega) (by omega) ?_
          try simp only [u2_I, uR_uR, uR_app, eq_self, Nat.reduceEqDiff, Nat.add_eq_left, Nat.left_eq_add, ↓reduceIte]
          refine r_iinc (pc := 63) dX12_undo_63 rfl ?_
          refine r_goto (pc := 66) 42 dX12_undo_66 (by decide) ?_
          rw [un1_s _ (by omega) (by omega)]
          exact ih (o + 1) _ (by omega) (by omega)
    refine r_iconst (pc := 40) dX12_undo_40 ?_
    refine r_istore_n (pc := 41) dX12_undo_41 (by decide) ?_
    have q := l1 4 0 0 (by omega) rfl
    rw [show un1 (up (I (m + 1)) 115 r) a 0 = up (I (m + 1)) 115 r by funext x; unfold un1; rw [if_neg (by omega)]] at q
    exact q
  refine r_aload_n (pc := 0) dX12_undo_0 rfl ?_
  refine r_getA (pc := 1) dX12_undo_1 frX12_7 (by assumption) (by assumption) ?_
  refine r_bipush (pc := 4) dX12_undo_4 (by decide) ?_
  refine r_iald (j := 115) (pc := 6) dX12_undo_6 (by assumption) rfl (by omega) (by omega) ?_
  refine r_if_ne (pc := 7) 15 dX12_undo_7 (by decide) (by omega) (fun h7 => ?_) (fun h7 => ?_)
  · skip
    refine r_aload_n (pc := 15) dX12_undo_15 rfl ?_
    refine r_getA (pc := 16) dX12_undo_16 frX12_7 (by assumption) (by assumption) ?_
    refine r_bipush (pc := 19) dX12_undo_19 (by decide) ?_
    refine r_dup2 (pc := 21) dX12_undo_21 rfl rfl ?_
    refine r_iald (j := 115) (pc := 22) dX12_undo_22 (by assumption) rfl (by omega) (by omega) ?_
    refine r_iconst (pc := 23) dX12_undo_23 ?_
    refine r_isub (pc := 24) dX12_undo_24 ?_
    refine r_iast (j := 115) (pc := 25) dX12_undo_25 (by assumption) (by omega) rfl (by omega) (by omega) ?_
    try simp only [u2_I, uR_uR, uR_app, eq_self, Nat.reduceEqDiff, Nat.add_eq_left, Nat.left_eq_add, ↓reduceIte]
    refine r_bipush (pc := 26) dX12_undo_26 (by decide) ?_
    refine r_bipush (pc := 28) dX12_undo_28 (by decide) ?_
    refine r_aload_n (pc := 30) dX12_undo_30 rfl ?_
    refine r_getA (pc := 31) dX12_undo_31 frX12_7 (by assumption) (by assumption) ?_
    refine r_bipush (pc := 34) dX12_undo_34 (by decide) ?_
    refine r_iald (j := 115) (pc := 36) dX12_undo_36 (by assumption) rfl (by omega) (by omega) ?_
    try simp only [u2_I, uR_uR, uR_app, eq_self, Nat.reduceEqDiff, Nat.add_eq_left, Nat.left_eq_add, ↓reduceIte]
    rw [up_s]
    refine r_imul (pc := 37) dX12_undo_37 ?_
    refine r_iadd (pc := 38) dX12_undo_38 ?_
    refine r_istore_n (pc := 39) dX12_undo_39 (by decide) ?_
    exact main h7 (116 + 20 * (I (m + 1) 115 - 1).toNat) _ _ _ rfl (by omega) rfl
  · skip
    refine r_aload_n (pc := 10) dX12_undo_10 rfl ?_
    refine i_V0ix (pc := 11) okX12_no inX12_no selX12_no q1203 dX12_undo_11 (by assumption) rfl (by decide) (Nat.le_of_ble_eq_true rfl) (sX12_no) ?_
    refine t_iret (pc := 14) dX12_undo_14 rfl rfl ?_
    unfold undoM
    rw [rdM_1, if_pos h7]
    exact QZ_no
end REF9

