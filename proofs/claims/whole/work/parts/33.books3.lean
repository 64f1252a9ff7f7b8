/-! what the books tell -/
def apR (B : Nat → Int) (v : Nat) (R : Nat → Int) : Nat → Int
  | 0 => 0
  | i + 1 => apR B v R i + (if B (91 + (6 * v + i)) = R i then 0 else 1)
theorem apR_in (B : Nat → Int) (v : Nat) (R : Nat → Int) : ∀ n : Nat, 0 ≤ apR B v R n ∧ apR B v R n ≤ n := by
  intro n
  induction n with
  | zero => simp [apR]
  | succ n ih => unfold apR; split <;> omega
def rowB (B : Nat → Int) (w : Nat) : Nat → Int := fun i => B (91 + (6 * w + i))
theorem sX0_letter {G : WG} {C : CF} {I : MI} {P : MP} {L : ML} {b v i : Nat} {x y : Int} (hb : BooksL G C P b := by assumption) (hx : x = (v : Int) := by first | rfl | omega) (hy : y = (i : Int) := by first | rfl | omega) (hv : v < 4 := by omega) (hi : i < 6 := by omega) : SX0_letter G [.ref b, .int (zI x), .int (zI y)] C I P L (NI C (XI (rdB I b (91 + (6 * v + i))) I P L)) := by
  obtain ⟨hB, hK, hK1, hK2, hK3, hK4, hK5, hK6, hK7, hP1, hP2, hP3, hP4, hP5, hP6, hP7⟩ := id hb
  refine en_I (by decide +kernel) (Nat.le_of_ble_eq_true rfl) ?_
  change Wd _ _ _ _ _ _ _ _ 0 [some _, some _, some _] [] _ _ _ _
  refine r_aload_n (pc := 0) dX0_letter_0 rfl ?_
  refine r_getA (pc := 1) dX0_letter_1 frX0_30 (by assumption) (by assumption) ?_
  refine r_iload_n (pc := 4) dX0_letter_4 rfl ?_
  refine r_bipush (pc := 5) dX0_letter_5 (by decide) ?_
  refine r_imul (pc := 7) dX0_letter_7 ?_
  refine r_iload_n (pc := 8) dX0_letter_8 rfl ?_
  refine r_iadd (pc := 9) dX0_letter_9 ?_
  refine i_SN2ix (pc := 10) okX11_at staX11_at nwX0_54 dX0_letter_10 (by decide) (Nat.le_of_ble_eq_true rfl) (sX11_at (n := 24) (j := 6 * v + i)) ?_
  refine t_iret (pc := 13) dX0_letter_13 rfl rfl ?_
  exact ⟨ab_w I b (by omega), rfl, rfl, rfl⟩
theorem sX0_wordsApart {G : WG} {C : CF} {I : MI} {P : MP} {L : ML} {b v w : Nat} {x y : Int} (hb : BooksL G C P b := by assumption) (hI : BI (rdB I b) := by assumption) (hx : x = (v : Int) := by first | rfl | omega) (hy : y = (w : Int) := by first | rfl | omega) (hv : v < 4 := by omega) (hw : w < 4 := by omega) : SX0_wordsApart G [.ref b, .int (zI x), .int (zI y)] C I P L (NI C (XI (apR (rdB I b) v (rowB (rdB I b) w) 6) I P L)) := by
  subst hx hy
  obtain ⟨hB, hK, -⟩ := id hb
  generalize hq : XI (apR (rdB I b) v (rowB (rdB I b) w) 6) I P L = q
  have hl := hI.2.2.2.2.2.2
  refine en_I (by decide +kernel) (Nat.le_of_ble_eq_true rfl) ?_
  change Wd _ _ _ _ _ _ _ _ 0 [some _, some _, some _, none, none] [] _ _ _ _
  have loop : ∀ (d f : Nat) (i k : Int), f + d = 6 → i = (f : Int) → k = apR (rdB I b) v (rowB (rdB I b) w) f → Wd G yX0_wordsApart cX0_wordsApart 5 (some .int) 2 (C.2.1 + 0, C.2.2 + 0) (NI C q) 5 [some (.ref b), some (.int (zI (v : Int))), some (.int (zI (w : Int))), some (.int (zI k)), some (.int (zI i))] [] C I P L := by
    intro d
    induction d using Nat.strongRecOn with
    | _ d ih =>
      intro f i k hd hi hk
      refine r_iload (pc := 5) dX0_wordsApart_5 rfl ?_
      refine r_bipush (pc := 7) dX0_wordsApart_7 (by decide) ?_
      refine r_icmp_ge (pc := 9) 38 dX0_wordsApart_9 (by decide) (by omega) (by omega) (fun h9 => ?_) (fun h9 => ?_)
      · skip
        refine r_iload_n (pc := 38) dX0_wordsApart_38 rfl ?_
        refine t_iret (pc := 39) dX0_wordsApart_39 rfl rfl ?_
        subst hq; exact ⟨by rw [hk, show f = 6 by omega], rfl, rfl, rfl⟩
      · skip
        have b1 := hl (6 * v + f) (by omega)
        have b2 := hl (6 * w + f) (by omega)
        refine r_aload_n (pc := 12) dX0_wordsApart_12 rfl ?_
        refine r_iload_n (pc := 13) dX0_wordsApart_13 rfl ?_
        refine r_iload (pc := 14) dX0_wordsApart_14 rfl ?_
        refine i_V2ix (pc := 16) okX0_letter inX0_letter selX0_letter q958 dX0_wordsApart_16 (by assumption) rfl (by decide) (Nat.le_of_ble_eq_true rfl) (sX0_letter (v := v) (i := f)) ?_
        refine r_aload_n (pc := 19) dX0_wordsApart_19 rfl ?_
        refine r_iload_n (pc := 20) dX0_wordsApart_20 rfl ?_
        refine r_iload (pc := 21) dX0_wordsApart_21 rfl ?_
        refine i_V2ix (pc := 23) okX0_letter inX0_letter selX0_letter q958 dX0_wordsApart_23 (by assumption) rfl (by decide) (Nat.le_of_ble_eq_true rfl) (sX0_letter (v := w) (i := f)) ?_
        refine r_icmp_eq (pc := 26) 32 dX0_wordsApart_26 (by decide) (by omega) (by omega) (fun h26 => ?_) (fun h26 => ?_)
        · skip
          refine r_iinc (pc := 32) dX0_wordsApart_32 rfl ?_
          refine r_goto (pc := 35) 5 dX0_wordsApart_35 (by decide) ?_
          exact ih (d - 1) (by omega) (f + 1) _ _ (by omega) (by omega) (by rw [apR, if_pos (by rw [rowB]; exact h26), hk]; omega)
        · skip
          refine r_iinc (pc := 29) dX0_wordsApart_29 rfl ?_
          refine r_iinc (pc := 32) dX0_wordsApart_32 rfl ?_
          refine r_goto (pc := 35) 5 dX0_wordsApart_35 (by decide) ?_
          exact ih (d - 1) (by omega) (f + 1) _ _ (by omega) (by omega) (by rw [apR, if_neg (by rw [rowB]; exact h26), hk])
  refine r_iconst (pc := 0) dX0_wordsApart_0 ?_
  refine r_istore_n (pc := 1) dX0_wordsApart_1 (by decide) ?_
  refine r_iconst (pc := 2) dX0_wordsApart_2 ?_
  refine r_istore (pc := 3) dX0_wordsApart_3 (by decide) ?_
  exact loop 6 0 _ _ (by omega) (by omega) rfl
def leastS (acc x : Int) : Int := if acc = -1 ∨ x < acc then x else acc
def nearI (B : Nat → Int) (w : Nat) (acc : Int) : Nat → Int
  | 0 => acc
  | v + 1 => leastS (nearI B w acc v) (apR B v (rowB B w) 6)
def nearO (B : Nat → Int) : Nat → Int
  | 0 => -1
  | w + 1 => nearI B w (nearO B w) w
theorem nearI_in (B : Nat → Int) (w : Nat) {acc : Int} (h : -1 ≤ acc ∧ acc ≤ 6) : ∀ v, -1 ≤ nearI B w acc v ∧ nearI B w acc v ≤ 6 := by
  intro v
  induction v with
  | zero => exact h
  | succ v ih => have h2 := apR_in B v (rowB B w) 6; unfold nearI leastS; split <;> omega
theorem nearO_in (B : Nat → Int) : ∀ w, -1 ≤ nearO B w ∧ nearO B w ≤ 6 := by
  intro w
  induction w with
  | zero => simp [nearO]
  | succ w ih => unfold nearO; exact nearI_in B w ih w
theorem sX0_nearestPair {G : WG} {C : CF} {I : MI} {P : MP} {L : ML} {b n : Nat} (hb : BooksL G C P b := by assumption) (hI : BI (rdB I b) := by assumption) (hn : I b 3 = (n : Int) := by assumption) (hn2 : n ≤ 4 := by omega) : SX0_nearestPair G [.ref b] C I P L (NI C (XI (nearO (rdB I b) n) I P L)) := by
  obtain ⟨hB, hK, -⟩ := id hb
  generalize hq : XI (nearO (rdB I b) n) I P L = q
  refine en_I (by decide +kernel) (Nat.le_of_ble_eq_true rfl) ?_
  change Wd _ _ _ _ _ _ _ _ 0 [some _, none, none, none, none] [] _ _ _ _
  have outer : ∀ (d w : Nat) (i k : Int) (x y : Option Value), w + d = 5 → i = (w : Int) → 1 ≤ w → (w ≤ n ∨ w = 1 ∧ n = 0) → k = nearO (rdB I b) w → Wd G yX0_nearestPair cX0_nearestPair 5 (some .int) 3 (C.2.1 + 0, C.2.2 + 0) (NI C q) 4 [some (.ref b), some (.int (zI k)), some (.int (zI i)), x, y] [] C I P L := by
    intro d
    induction d using Nat.strongRecOn with
    | _ d ihw =>
      intro w i k x y hd hi h1 hwn hk
      have hkr := nearO_in (rdB I b) w
      have inner : ∀ (e v : Nat) (j m : Int) (y : Option Value), v + e = w → w < n → j = (v : Int) → m = nearI (rdB I b) w k v → Wd G yX0_nearestPair cX0_nearestPair 5 (some .int) 3 (C.2.1 + 0, C.2.2 + 0) (NI C q) 14 [some (.ref b), some (.int (zI m)), some (.int (zI i)), some (.int (zI j)), y] [] C I P L := by
        intro e
        induction e using Nat.strongRecOn with
        | _ e ihv =>
          intro v j m y he hwn2 hj hm
          have hmr := nearI_in (rdB I b) w (acc := k) (by omega) v
          have har := apR_in (rdB I b) v (rowB (rdB I b) w) 6
          refine r_iload_n (pc := 14) dX0_nearestPair_14 rfl ?_
          refine r_iload_n (pc := 15) dX0_nearestPair_15 rfl ?_
          refine r_icmp_ge (pc := 16) 47 dX0_nearestPair_16 (by decide) (by omega) (by omega) (fun h16 => ?_) (fun h16 => ?_)
          · skip
            refine r_iinc (pc := 47) dX0_nearestPair_47 rfl ?_
            refine r_goto (pc := 50) 4 dX0_nearestPair_50 (by decide) ?_
            exact ihw (d - 1) (by omega) (w + 1) _ _ _ _ (by omega) (by omega) (by omega) (by omega) (by rw [nearO, hm, hk, show v = w by omega])
          · skip
            refine r_aload_n (pc := 19) dX0_nearestPair_19 rfl ?_
            refine r_iload_n (pc := 20) dX0_nearestPair_20 rfl ?_
            refine r_iload_n (pc := 21) dX0_nearestPair_21 rfl ?_
            refine i_V2ix (pc := 22) okX0_wordsApart inX0_wordsApart selX0_wordsApart q967 dX0_nearestPair_22 (by assumption) rfl (by decide) (Nat.le_of_ble_eq_true rfl) (sX0_wordsApart (v := v) (w := w)) ?_
            refine r_istore (pc := 25) dX0_nearestPair_25 (by decide) ?_
            refine r_iload_n (pc := 27) dX0_nearestPair_27 rfl ?_
            refine r_iconst (pc := 28) dX0_nearestPair_28 ?_
            refine r_icmp_eq (pc := 29) 38 dX0_nearestPair_29 (by decide) (by omega) (by omega) (fun h29 => ?_) (fun h29 => ?_)
            · skip
              refine r_iload (pc := 38) dX0_nearestPair_38 rfl ?_
              refine r_istore_n (pc := 40) dX0_nearestPair_40 (by decide) ?_
              refine r_iinc (pc := 41) dX0_nearestPair_41 rfl ?_
              refine r_goto (pc := 44) 14 dX0_nearestPair_44 (by decide) ?_
              exact ihv (e - 1) (by omega) (v + 1) _ _ _ (by omega) hwn2 (by omega) (by rw [nearI, leastS, if_pos (by omega)])
            · skip
              refine r_iload (pc := 32) dX0_nearestPair_32 rfl ?_
              refine r_iload_n (pc := 34) dX0_nearestPair_34 rfl ?_
              refine r_icmp_ge (pc := 35) 41 dX0_nearestPair_35 (by decide) (by omega) (by omega) (fun h35 => ?_) (fun h35 => ?_)
              · skip
                refine r_iinc (pc := 41) dX0_nearestPair_41 rfl ?_
                refine r_goto (pc := 44) 14 dX0_nearestPair_44 (by decide) ?_
                exact ihv (e - 1) (by omega) (v + 1) _ _ _ (by omega) hwn2 (by omega) (by rw [nearI, leastS, if_neg (by omega)]; omega)
              · skip
                refine r_iload (pc := 38) dX0_nearestPair_38 rfl ?_
                refine r_istore_n (pc := 40) dX0_nearestPair_40 (by decide) ?_
                refine r_iinc (pc := 41) dX0_nearestPair_41 rfl ?_
                refine r_goto (pc := 44) 14 dX0_nearestPair_44 (by decide) ?_
                exact ihv (e - 1) (by omega) (v + 1) _ _ _ (by omega) hwn2 (by omega) (by rw [nearI, leastS, if_pos (by omega)])
      refine r_iload_n (pc := 4) dX0_nearestPair_4 rfl ?_
      refine r_aload_n (pc := 5) dX0_nearestPair_5 rfl ?_
      refine r_getI (pc := 6) dX0_nearestPair_6 frX0_43 (by assumption) ?_
      refine r_icmp_ge (pc := 9) 53 dX0_nearestPair_9 (by decide) (by omega) (by omega) (fun h9 => ?_) (fun h9 => ?_)
      · skip
        refine r_iload_n (pc := 53) dX0_nearestPair_53 rfl ?_
        refine t_iret (pc := 54) dX0_nearestPair_54 rfl rfl ?_
        subst hq
        refine ⟨?_, rfl, rfl, rfl⟩
        rw [hk]
        rcases (show w = n ∨ (w = 1 ∧ n = 0) by omega) with h | h
        · rw [h]
        · rw [h.1, h.2]; rfl
      · skip
        refine r_iconst (pc := 12) dX0_nearestPair_12 ?_
        refine r_istore_n (pc := 13) dX0_nearestPair_13 (by decide) ?_
        exact inner w 0 _ _ _ (by omega) (by omega) (by omega) rfl
  refine r_iconst (pc := 0) dX0_nearestPair_0 ?_
  refine r_istore_n (pc := 1) dX0_nearestPair_1 (by decide) ?_
  refine r_iconst (pc := 2) dX0_nearestPair_2 ?_
  refine r_istore_n (pc := 3) dX0_nearestPair_3 (by decide) ?_
  exact outer 4 1 _ _ _ _ (by omega) (by omega) (by omega) (by omega) rfl
def nwF (B : Nat → Int) (R : Nat → Int) : Nat → Int × Int
  | 0 => (-1, 7)
  | w + 1 => if apR B w R 6 < (nwF B R w).2 then ((w : Int), apR B w R 6) else nwF B R w
theorem nwF_in (B : Nat → Int) (R : Nat → Int) : ∀ w : Nat, 0 ≤ (nwF B R w).2 ∧ (nwF B R w).2 ≤ 7 ∧ -1 ≤ (nwF B R w).1 ∧ (nwF B R w).1 < w := by
  intro w
  induction w with
  | zero => simp [nwF]
  | succ w ih =>
    have h := apR_in B w R 6
    unfold nwF
    split
    · refine ⟨by omega, by omega, by simp only []; omega, by simp only []; omega⟩
    · omega
theorem sX0_nearestWord {G : WG} {C : CF} {I : MI} {P : MP} {L : ML} {b n w : Nat} (hb : BooksL G C P b := by assumption) (hI : BI (rdB I b) := by assumption) (hn : I b 3 = (n : Int) := by assumption) (hn2 : n ≤ 4 := by omega) (hw : C.1 w = some (.inr (0, 6)) := by assumption) (hR : ∀ i, i < 6 → iR (I w i) := by assumption) : SX0_nearestWord G [.ref b, .ref w] C I P L (NI C (XI (nwF (rdB I b) (I w) n).1 I P L)) := by
  obtain ⟨hB, hK, -⟩ := id hb
  have hl := hI.2.2.2.2.2.2
  generalize hq : XI (nwF (rdB I b) (I w) n).1 I P L = q
  refine en_I (by decide +kernel) (Nat.le_of_ble_eq_true rfl) ?_
  change Wd _ _ _ _ _ _ _ _ 0 [some _, some _, none, none, none, none, none] [] _ _ _ _
  have outer : ∀ (d v : Nat) (i k m : Int) (x y : Option Value), v + d = n → i = (v : Int) → k = (nwF (rdB I b) (I w) v).1 → m = (nwF (rdB I b) (I w) v).2 → Wd G yX0_nearestWord cX0_nearestWord 7 (some .int) 2 (C.2.1 + 0, C.2.2 + 0) (NI C q) 8 [some (.ref b), some (.ref w), some (.int (zI k)), some (.int (zI m)), some (.int (zI i)), x, y] [] C I P L := by
    intro d
    induction d using Nat.strongRecOn with
    | _ d ihw =>
      intro v i k m x y hd hi hk hm
      have hkr := nwF_in (rdB I b) (I w) v
      have inner : ∀ (e f : Nat) (j s : Int), f + e = 6 → v < n → j = (f : Int) → s = apR (rdB I b) v (I w) f → Wd G yX0_nearestWord cX0_nearestWord 7 (some .int) 2 (C.2.1 + 0, C.2.2 + 0) (NI C q) 23 [some (.ref b), some (.ref w), some (.int (zI k)), some (.int (zI m)), some (.int (zI i)), some (.int (zI s)), some (.int (zI j))] [] C I P L := by
        intro e
        induction e using Nat.strongRecOn with
        | _ e ihv =>
          intro f j s he hvn hj hs
          have har := apR_in (rdB I b) v (I w) f
          refine r_iload (pc := 23) dX0_nearestWord_23 rfl ?_
          refine r_bipush (pc := 25) dX0_nearestWord_25 (by decide) ?_
          refine r_icmp_ge (pc := 27) 56 dX0_nearestWord_27 (by decide) (by omega) (by omega) (fun h27 => ?_) (fun h27 => ?_)
          · skip
            have hf6 : f = 6 := by omega
            subst hf6
            refine r_iload (pc := 56) dX0_nearestWord_56 rfl ?_
            refine r_iload_n (pc := 58) dX0_nearestWord_58 rfl ?_
            refine r_icmp_ge (pc := 59) 68 dX0_nearestWord_59 (by decide) (by omega) (by omega) (fun h59 => ?_) (fun h59 => ?_)
            · skip
              refine r_iinc (pc := 68) dX0_nearestWord_68 rfl ?_
              refine r_goto (pc := 71) 8 dX0_nearestWord_71 (by decide) ?_
              exact ihw (d - 1) (by omega) (v + 1) _ _ _ _ _ (by omega) (by omega) (by rw [nwF, if_neg (by omega), hk]) (by rw [nwF, if_neg (by omega), hm])
            · skip
              refine r_iload (pc := 62) dX0_nearestWord_62 rfl ?_
              refine r_istore_n (pc := 64) dX0_nearestWord_64 (by decide) ?_
              refine r_iload (pc := 65) dX0_nearestWord_65 rfl ?_
              refine r_istore_n (pc := 67) dX0_nearestWord_67 (by decide) ?_
              refine r_iinc (pc := 68) dX0_nearestWord_68 rfl ?_
              refine r_goto (pc := 71) 8 dX0_nearestWord_71 (by decide) ?_
              exact ihw (d - 1) (by omega) (v + 1) _ _ _ _ _ (by omega) (by omega) (by rw [nwF, if_pos (by omega), hi]) (by rw [nwF, if_pos (by omega), hs])
          · skip
            have b1 := hl (6 * v + f) (by omega)
            have b2 := hR f (by omega)
            refine r_aload_n (pc := 30) dX0_nearestWord_30 rfl ?_
            refine r_iload (pc := 31) dX0_nearestWord_31 rfl ?_
            refine r_iload (pc := 33) dX0_nearestWord_33 rfl ?_
            refine i_V2ix (pc := 35) okX0_letter inX0_letter selX0_letter q958 dX0_nearestWord_35 (by assumption) rfl (by decide) (Nat.le_of_ble_eq_true rfl) (sX0_letter (v := v) (i := f)) ?_
            refine r_aload_n (pc := 38) dX0_nearestWord_38 rfl ?_
            refine r_iload (pc := 39) dX0_nearestWord_39 rfl ?_
            refine i_SN2ix (pc := 41) okX11_at staX11_at nwX0_54 dX0_nearestWord_41 (by decide) (Nat.le_of_ble_eq_true rfl) (sX11_at (n := 6) (j := f)) ?_
            refine r_icmp_eq (pc := 44) 50 dX0_nearestWord_44 (by decide) (by omega) (by omega) (fun h44 => ?_) (fun h44 => ?_)
            · skip
              refine r_iinc (pc := 50) dX0_nearestWord_50 rfl ?_
              refine r_goto (pc := 53) 23 dX0_nearestWord_53 (by decide) ?_
              exact ihv (e - 1) (by omega) (f + 1) _ _ (by omega) hvn (by omega) (by rw [apR, if_pos h44, hs]; omega)
            · skip
              refine r_iinc (pc := 47) dX0_nearestWord_47 rfl ?_
              refine r_iinc (pc := 50) dX0_nearestWord_50 rfl ?_
              refine r_goto (pc := 53) 23 dX0_nearestWord_53 (by decide) ?_
              exact ihv (e - 1) (by omega) (f + 1) _ _ (by omega) hvn (by omega) (by rw [apR, if_neg h44, hs])
      refine r_iload (pc := 8) dX0_nearestWord_8 rfl ?_
      refine r_aload_n (pc := 10) dX0_nearestWord_10 rfl ?_
      refine r_getI (pc := 11) dX0_nearestWord_11 frX0_43 (by assumption) ?_
      refine r_icmp_ge (pc := 14) 74 dX0_nearestWord_14 (by decide) (by omega) (by omega) (fun h14 => ?_) (fun h14 => ?_)
      · skip
        refine r_iload_n (pc := 74) dX0_nearestWord_74 rfl ?_
        refine t_iret (pc := 75) dX0_nearestWord_75 rfl rfl ?_
        subst hq; exact ⟨by rw [hk, show v = n by omega], rfl, rfl, rfl⟩
      · skip
        refine r_iconst (pc := 17) dX0_nearestWord_17 ?_
        refine r_istore (pc := 18) dX0_nearestWord_18 (by decide) ?_
        refine r_iconst (pc := 20) dX0_nearestWord_20 ?_
        refine r_istore (pc := 21) dX0_nearestWord_21 (by decide) ?_
        exact inner 6 0 _ _ (by omega) (by omega) (by omega) rfl
  refine r_iconst (pc := 0) dX0_nearestWord_0 ?_
  refine r_istore_n (pc := 1) dX0_nearestWord_1 (by decide) ?_
  refine r_bipush (pc := 2) dX0_nearestWord_2 (by decide) ?_
  refine r_istore_n (pc := 4) dX0_nearestWord_4 (by decide) ?_
  refine r_iconst (pc := 5) dX0_nearestWord_5 ?_
  refine r_istore (pc := 6) dX0_nearestWord_6 (by decide) ?_
  exact outer n 0 _ _ _ _ _ (by omega) (by omega) rfl rfl
def sumsF (B : Nat → Int) (h : Int) (a : Nat) : Nat → Int
  | 0 => h
  | n + 1 => 31 * sumsF B h a n + B (a + n)
theorem sumsF_3 (B : Nat → Int) (h : Int) (a n : Nat) : sumsF B h a (3 * (n + 1)) = 31 * (31 * (31 * sumsF B h a (3 * n) + B (a + 3 * n)) + B (a + 1 + 3 * n)) + B (a + 2 + 3 * n) := by
  rw [show 3 * (n + 1) = 3 * n + 1 + 1 + 1 by omega, sumsF, sumsF, sumsF, show a + (3 * n + 1 + 1) = a + 2 + 3 * n by omega, show a + (3 * n + 1) = a + 1 + 3 * n by omega]
def mixB (B : Nat → Int) (h : Int) : Int := sumsF B (sumsF B (sumsF B (31 * h + B 58) 34 (3 * (B 33).toNat)) 60 (3 * (B 59).toNat)) 91 (6 * (B 90).toNat)
theorem sX0_mixInto {G : WG} {C : CF} {I : MI} {P : MP} {L : ML} {b : Nat} {h : Int} (hb : BooksL G C P b := by assumption) (hI : BI (rdB I b) := by assumption) : SX0_mixInto G [.ref b, .long (zL h)] C I P L (NL C (XI (mixB (rdB I b) h) I P L)) := by
  obtain ⟨hB, hK, hK1, hK2, hK3, hK4, hK5, hK6, hK7, hP1, hP2, hP3, hP4, hP5, hP6, hP7⟩ := id hb
  obtain ⟨i0, i1, i2, i3, iD, iR', iW⟩ := id hI
  generalize hBB : rdB I b = B at *
  generalize hq : XI (mixB B h) I P L = q
  have e0 : I b 0 = B 58 := by rw [ab_0 I b, hBB]
  have e1 : I b 1 = B 33 := by rw [ab_1 I b, hBB]
  have e2 : I b 2 = B 59 := by rw [ab_2 I b, hBB]
  have e3 : I b 3 = B 90 := by rw [ab_3 I b, hBB]
  refine en_L (by decide +kernel) (Nat.le_of_ble_eq_true rfl) ?_
  change Wd _ _ _ _ _ _ _ _ 0 [some _, some _, none, none, none, none] [] _ _ _ _
  have loop3 : ∀ (d f : Nat) (i k : Int), f + d = 6 * (B 90).toNat → i = (f : Int) → k = sumsF B (sumsF B (sumsF B (31 * h + B 58) 34 (3 * (B 33).toNat)) 60 (3 * (B 59).toNat)) 91 f → Wd G yX0_mixInto cX0_mixInto 6 (some .long) 1 (C.2.1 + 0, C.2.2 + 0) (NL C q) 131 [some (.ref b), some (.long (zL h)), none, some (.long (zL k)), none, some (.int (zI i))] [] C I P L := by
    intro d
    induction d using Nat.strongRecOn with
    | _ d ih =>
      intro f i k hd hi hk
      refine r_iload (pc := 131) dX0_mixInto_131 rfl ?_
      refine r_aload_n (pc := 133) dX0_mixInto_133 rfl ?_
      refine r_getI (pc := 134) dX0_mixInto_134 frX0_43 (by assumption) ?_
      refine r_bipush (pc := 137) dX0_mixInto_137 (by decide) ?_
      refine r_imul (pc := 139) dX0_mixInto_139 ?_
      refine r_icmp_ge (pc := 140) 164 dX0_mixInto_140 (by decide) (by omega) (by omega) (fun h140 => ?_) (fun h140 => ?_)
      · skip
        refine r_lload_n (pc := 164) dX0_mixInto_164 rfl ?_
        refine t_lret (pc := 165) dX0_mixInto_165 rfl ?_
        subst hq; exact ⟨by rw [mixB, hk, show f = 6 * (B 90).toNat by omega], rfl, rfl, rfl⟩
      · skip
        have hf : f < 24 := by omega
        have ew := ab_w I b hf
        have bw := iW f hf
        rw [hBB] at ew
        rw [← ew] at bw
        refine r_lload_n (pc := 143) dX0_mixInto_143 rfl ?_
        refine r_aload_n (pc := 144) dX0_mixInto_144 rfl ?_
        refine r_getA (pc := 145) dX0_mixInto_145 frX0_30 (by assumption) (by assumption) ?_
        refine r_iload (pc := 148) dX0_mixInto_148 rfl ?_
        refine i_SN2ix (pc := 150) okX11_at staX11_at nwX0_54 dX0_mixInto_150 (by decide) (Nat.le_of_ble_eq_true rfl) (sX11_at (n := 24) (j := f)) ?_
        refine r_i2l (pc := 153) dX0_mixInto_153 (by omega) ?_
        refine i_SN2lx (pc := 154) okX11_mix staX11_mix nwX0_82 dX0_mixInto_154 (by decide) (Nat.le_of_ble_eq_true rfl) (sX11_mix) ?_
        refine r_lstore_n (pc := 157) dX0_mixInto_157 (by decide) ?_
        refine r_iinc (pc := 158) dX0_mixInto_158 rfl ?_
        refine r_goto (pc := 161) 131 dX0_mixInto_161 (by decide) ?_
        exact ih (d - 1) (by omega) (f + 1) _ _ (by omega) (by omega) (by rw [sumsF, ← hk, ew])
  have loop2 : ∀ (d f : Nat) (i k : Int), f + d = (B 59).toNat → i = (f : Int) → k = sumsF B (sumsF B (31 * h + B 58) 34 (3 * (B 33).toNat)) 60 (3 * f) → Wd G yX0_mixInto cX0_mixInto 6 (some .long) 1 (C.2.1 + 0, C.2.2 + 0) (NL C q) 72 [some (.ref b), some (.long (zL h)), none, some (.long (zL k)), none, some (.int (zI i))] [] C I P L := by
    intro d
    induction d using Nat.strongRecOn with
    | _ d ih =>
      intro f i k hd hi hk
      refine r_iload (pc := 72) dX0_mixInto_72 rfl ?_
      refine r_aload_n (pc := 74) dX0_mixInto_74 rfl ?_
      refine r_getI (pc := 75) dX0_mixInto_75 frX0_40 (by assumption) ?_
      refine r_icmp_ge (pc := 78) 128 dX0_mixInto_78 (by decide) (by omega) (by omega) (fun h78 => ?_) (fun h78 => ?_)
      · skip
        refine r_iconst (pc := 128) dX0_mixInto_128 ?_
        refine r_istore (pc := 129) dX0_mixInto_129 (by decide) ?_
        exact loop3 (6 * (B 90).toNat) 0 _ _ (by omega) (by omega) (by rw [hk, show f = (B 59).toNat by omega]; rfl)
      · skip
        have hf : f < 10 := by omega
        have ey := ab_y I b hf
        have el := ab_l I b hf
        have ec := ab_c I b hf
        have bw := iR' f hf
        rw [hBB] at ey el ec
        rw [← ey, ← el, ← ec] at bw
        refine r_lload_n (pc := 81) dX0_mixInto_81 rfl ?_
        refine r_aload_n (pc := 82) dX0_mixInto_82 rfl ?_
        refine r_getA (pc := 83) dX0_mixInto_83 frX0_21 (by assumption) (by assumption) ?_
        refine r_iload (pc := 86) dX0_mixInto_86 rfl ?_
        refine i_SN2ix (pc := 88) okX11_at staX11_at nwX0_54 dX0_mixInto_88 (by decide) (Nat.le_of_ble_eq_true rfl) (sX11_at (n := 10) (j := f)) ?_
        refine r_i2l (pc := 91) dX0_mixInto_91 (by omega) ?_
        refine i_SN2lx (pc := 92) okX11_mix staX11_mix nwX0_82 dX0_mixInto_92 (by decide) (Nat.le_of_ble_eq_true rfl) (sX11_mix) ?_
        refine r_aload_n (pc := 95) dX0_mixInto_95 rfl ?_
        refine r_getA (pc := 96) dX0_mixInto_96 frX0_24 (by assumption) (by assumption) ?_
        refine r_iload (pc := 99) dX0_mixInto_99 rfl ?_
        refine i_SN2ix (pc := 101) okX11_at staX11_at nwX0_54 dX0_mixInto_101 (by decide) (Nat.le_of_ble_eq_true rfl) (sX11_at (n := 10) (j := f)) ?_
        refine r_i2l (pc := 104) dX0_mixInto_104 (by omega) ?_
        refine i_SN2lx (pc := 105) okX11_mix staX11_mix nwX0_82 dX0_mixInto_105 (by decide) (Nat.le_of_ble_eq_true rfl) (sX11_mix) ?_
        refine r_aload_n (pc := 108) dX0_mixInto_108 rfl ?_
        refine r_getA (pc := 109) dX0_mixInto_109 frX0_27 (by assumption) (by assumption) ?_
        refine r_iload (pc := 112) dX0_mixInto_112 rfl ?_
        refine i_SN2ix (pc := 114) okX11_at staX11_at nwX0_54 dX0_mixInto_114 (by decide) (Nat.le_of_ble_eq_true rfl) (sX11_at (n := 10) (j := f)) ?_
        refine r_i2l (pc := 117) dX0_mixInto_117 (by omega) ?_
        refine i_SN2lx (pc := 118) okX11_mix staX11_mix nwX0_82 dX0_mixInto_118 (by decide) (Nat.le_of_ble_eq_true rfl) (sX11_mix) ?_
        refine r_lstore_n (pc := 121) dX0_mixInto_121 (by decide) ?_
        refine r_iinc (pc := 122) dX0_mixInto_122 rfl ?_
        refine r_goto (pc := 125) 72 dX0_mixInto_125 (by decide) ?_
        exact ih (d - 1) (by omega) (f + 1) _ _ (by omega) (by omega) (by rw [sumsF_3, ← hk, ey, el, ec])
  have loop1 : ∀ (d f : Nat) (i k : Int), f + d = (B 33).toNat → i = (f : Int) → k = sumsF B (31 * h + B 58) 34 (3 * f) → Wd G yX0_mixInto cX0_mixInto 6 (some .long) 1 (C.2.1 + 0, C.2.2 + 0) (NL C q) 13 [some (.ref b), some (.long (zL h)), none, some (.long (zL k)), none, some (.int (zI i))] [] C I P L := by
    intro d
    induction d using Nat.strongRecOn with
    | _ d ih =>
      intro f i k hd hi hk
      refine r_iload (pc := 13) dX0_mixInto_13 rfl ?_
      refine r_aload_n (pc := 15) dX0_mixInto_15 rfl ?_
      refine r_getI (pc := 16) dX0_mixInto_16 frX0_37 (by assumption) ?_
      refine r_icmp_ge (pc := 19) 69 dX0_mixInto_19 (by decide) (by omega) (by omega) (fun h19 => ?_) (fun h19 => ?_)
      · skip
        refine r_iconst (pc := 69) dX0_mixInto_69 ?_
        refine r_istore (pc := 70) dX0_mixInto_70 (by decide) ?_
        exact loop2 (B 59).toNat 0 _ _ (by omega) (by omega) (by rw [hk, show f = (B 33).toNat by omega]; rfl)
      · skip
        have hf : f < 8 := by omega
        have ey := ab_f I b hf
        have el := ab_t I b hf
        have ec := ab_o I b hf
        have bw := iD f hf
        rw [hBB] at ey el ec
        rw [← ey, ← el, ← ec] at bw
        refine r_lload_n (pc := 22) dX0_mixInto_22 rfl ?_
        refine r_aload_n (pc := 23) dX0_mixInto_23 rfl ?_
        refine r_getA (pc := 24) dX0_mixInto_24 frX0_9 (by assumption) (by assumption) ?_
        refine r_iload (pc := 27) dX0_mixInto_27 rfl ?_
        refine i_SN2ix (pc := 29) okX11_at staX11_at nwX0_54 dX0_mixInto_29 (by decide) (Nat.le_of_ble_eq_true rfl) (sX11_at (n := 8) (j := f)) ?_
        refine r_i2l (pc := 32) dX0_mixInto_32 (by omega) ?_
        refine i_SN2lx (pc := 33) okX11_mix staX11_mix nwX0_82 dX0_mixInto_33 (by decide) (Nat.le_of_ble_eq_true rfl) (sX11_mix) ?_
        refine r_aload_n (pc := 36) dX0_mixInto_36 rfl ?_
        refine r_getA (pc := 37) dX0_mixInto_37 frX0_15 (by assumption) (by assumption) ?_
        refine r_iload (pc := 40) dX0_mixInto_40 rfl ?_
        refine i_SN2ix (pc := 42) okX11_at staX11_at nwX0_54 dX0_mixInto_42 (by decide) (Nat.le_of_ble_eq_true rfl) (sX11_at (n := 8) (j := f)) ?_
        refine r_i2l (pc := 45) dX0_mixInto_45 (by omega) ?_
        refine i_SN2lx (pc := 46) okX11_mix staX11_mix nwX0_82 dX0_mixInto_46 (by decide) (Nat.le_of_ble_eq_true rfl) (sX11_mix) ?_
        refine r_aload_n (pc := 49) dX0_mixInto_49 rfl ?_
        refine r_getA (pc := 50) dX0_mixInto_50 frX0_18 (by assumption) (by assumption) ?_
        refine r_iload (pc := 53) dX0_mixInto_53 rfl ?_
        refine i_SN2ix (pc := 55) okX11_at staX11_at nwX0_54 dX0_mixInto_55 (by decide) (Nat.le_of_ble_eq_true rfl) (sX11_at (n := 8) (j := f)) ?_
        refine r_i2l (pc := 58) dX0_mixInto_58 (by omega) ?_
        refine i_SN2lx (pc := 59) okX11_mix staX11_mix nwX0_82 dX0_mixInto_59 (by decide) (Nat.le_of_ble_eq_true rfl) (sX11_mix) ?_
        refine r_lstore_n (pc := 62) dX0_mixInto_62 (by decide) ?_
        refine r_iinc (pc := 63) dX0_mixInto_63 rfl ?_
        refine r_goto (pc := 66) 13 dX0_mixInto_66 (by decide) ?_
        exact ih (d - 1) (by omega) (f + 1) _ _ (by omega) (by omega) (by rw [sumsF_3, ← hk, ey, el, ec])
  refine r_lload_n (pc := 0) dX0_mixInto_0 rfl ?_
  refine r_aload_n (pc := 1) dX0_mixInto_1 rfl ?_
  refine r_getI (pc := 2) dX0_mixInto_2 frX0_33 (by assumption) ?_
  refine r_i2l (pc := 5) dX0_mixInto_5 (by omega) ?_
  refine i_SN2lx (pc := 6) okX11_mix staX11_mix nwX0_82 dX0_mixInto_6 (by decide) (Nat.le_of_ble_eq_true rfl) (sX11_mix) ?_
  refine r_lstore_n (pc := 9) dX0_mixInto_9 (by decide) ?_
  refine r_iconst (pc := 10) dX0_mixInto_10 ?_
  refine r_istore (pc := 11) dX0_mixInto_11 (by decide) ?_
  exact loop1 (B 33).toNat 0 _ _ (by omega) (by omega) (by rw [e0]; rfl)

