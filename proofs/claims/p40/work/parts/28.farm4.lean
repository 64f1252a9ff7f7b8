/-! the farm's other methods -/
theorem farmV {F : Nat → Int} {Y : Int} (h : FI F Y) (hY : Y ≤ 1000000) : (2 ≤ F 0 ∧ F 0 ≤ 70) ∧ (0 ≤ F 1 ∧ F 1 ≤ 1000000) ∧ (0 ≤ F 2 ∧ F 2 ≤ 9999) ∧ (0 ≤ F 3 ∧ F 3 ≤ 9999) ∧ (0 ≤ F 4 ∧ F 4 ≤ 9999) ∧ (0 ≤ F 5 ∧ F 5 ≤ 9999) ∧ (0 ≤ F 6 ∧ F 6 ≤ 6) := by
  obtain ⟨a0, a1, a2, a3, a4, a5, a6, a7⟩ := h
  exact ⟨a0, by omega, a2, a3, a4, a5, a6⟩
theorem sX2_yearsToNoon {G : WG} {C : CF} {I : MI} {P : MP} {L : ML} {a : Nat} {Y : Int} (hF : FarmL G C P a := by assumption) (hI : FI (rdF I a) Y := by assumption) (hY : Y ≤ 1000000 := by omega) : SX2_yearsToNoon G [.ref a] C I P L (NI C (XI (rdF I a 0 - 1 - rdF I a 1 % rdF I a 0) I P L)) := by
  obtain ⟨hB, hK, hK1, hK2, hK3, hP0, hP1, hP2, hP3, hfam⟩ := id hF
  have hs : 2 ≤ I a 4 ∧ I a 4 ≤ 70 := hI.1
  have hy : 0 ≤ I a 5 ∧ I a 5 ≤ Y := hI.2.1
  refine en_I (by decide +kernel) (Nat.le_of_ble_eq_true rfl) ?_
  change Wd _ _ _ _ _ _ _ _ 0 [some _] [] _ _ _ _
  refine r_aload_n (pc := 0) dX2_yearsToNoon_0 rfl ?_
  refine r_getI (pc := 1) dX2_yearsToNoon_1 frX2_35 (by assumption) ?_
  refine r_iconst (pc := 4) dX2_yearsToNoon_4 ?_
  refine r_isub (pc := 5) dX2_yearsToNoon_5 ?_
  refine r_aload_n (pc := 6) dX2_yearsToNoon_6 rfl ?_
  refine r_getI (pc := 7) dX2_yearsToNoon_7 frX2_39 (by assumption) ?_
  refine r_aload_n (pc := 10) dX2_yearsToNoon_10 rfl ?_
  refine r_getI (pc := 11) dX2_yearsToNoon_11 frX2_35 (by assumption) ?_
  refine i_SN2ix (pc := 14) okX11_leftOver staX11_leftOver nwX2_90 dX2_yearsToNoon_14 (by decide) (Nat.le_of_ble_eq_true rfl) (sX11_leftOver) ?_
  refine r_isub (pc := 17) dX2_yearsToNoon_17 ?_
  refine t_iret (pc := 18) dX2_yearsToNoon_18 rfl rfl ?_
  exact ⟨rfl, rfl, rfl, rfl⟩
def noonsF (F : Nat → Int) : Nat → Int
  | 0 => 0
  | n + 1 => noonsF F n + (if noonF F (F 1 + n) then 1 else 0)
theorem noonsF_in (F : Nat → Int) : ∀ n : Nat, 0 ≤ noonsF F n ∧ noonsF F n ≤ n := by
  intro n
  induction n with
  | zero => simp [noonsF]
  | succ n ih => unfold noonsF; split <;> omega
theorem sX2_stock {G : WG} {C : CF} {I : MI} {P : MP} {L : ML} {a w : Nat} {x : Int} (hF : FarmL G C P a := by assumption) (hx : x = (w : Int) := by first | rfl | omega) (hw : w < 4 := by omega) : SX2_stock G [.ref a, .int (zI x)] C I P L (NI C (XI (rdF I a (2 + w)) I P L)) := by
  obtain ⟨hB, hK, hK1, hK2, hK3, hP0, hP1, hP2, hP3, hfam⟩ := id hF
  refine en_I (by decide +kernel) (Nat.le_of_ble_eq_true rfl) ?_
  change Wd _ _ _ _ _ _ _ _ 0 [some _, some _] [] _ _ _ _
  refine r_iload_n (pc := 0) dX2_stock_0 rfl ?_
  rcases (show x = 0 ∨ x = 1 ∨ x = 2 ∨ (x < 0 ∨ 2 < x) by omega) with h1 | h1 | h1 | h1
  · skip
    refine r_tsIn (pc := 1) 28 dX2_stock_1 (by omega) (by omega) (by omega) (by rw [h1]; rfl) (by decide) ?_
    refine r_aload_n (pc := 28) dX2_stock_28 rfl ?_
    refine r_getI (pc := 29) dX2_stock_29 frX2_42 (by assumption) ?_
    refine t_iret (pc := 32) dX2_stock_32 rfl rfl ?_
    obtain rfl : w = 0 := by omega
    exact ⟨rfl, rfl, rfl, rfl⟩
  · skip
    refine r_tsIn (pc := 1) 33 dX2_stock_1 (by omega) (by omega) (by omega) (by rw [h1]; rfl) (by decide) ?_
    refine r_aload_n (pc := 33) dX2_stock_33 rfl ?_
    refine r_getI (pc := 34) dX2_stock_34 frX2_45 (by assumption) ?_
    refine t_iret (pc := 37) dX2_stock_37 rfl rfl ?_
    obtain rfl : w = 1 := by omega
    exact ⟨rfl, rfl, rfl, rfl⟩
  · skip
    refine r_tsIn (pc := 1) 38 dX2_stock_1 (by omega) (by omega) (by omega) (by rw [h1]; rfl) (by decide) ?_
    refine r_aload_n (pc := 38) dX2_stock_38 rfl ?_
    refine r_getI (pc := 39) dX2_stock_39 frX2_48 (by assumption) ?_
    refine t_iret (pc := 42) dX2_stock_42 rfl rfl ?_
    obtain rfl : w = 2 := by omega
    exact ⟨rfl, rfl, rfl, rfl⟩
  · skip
    refine r_tsOut (pc := 1) 43 dX2_stock_1 (by omega) h1 (by decide) ?_
    refine r_aload_n (pc := 43) dX2_stock_43 rfl ?_
    refine r_getI (pc := 44) dX2_stock_44 frX2_51 (by assumption) ?_
    refine t_iret (pc := 47) dX2_stock_47 rfl rfl ?_
    obtain rfl : w = 3 := by omega
    exact ⟨rfl, rfl, rfl, rfl⟩
theorem sX2_restock {G : WG} {C : CF} {I : MI} {P : MP} {L : ML} {a w : Nat} {x v : Int} (hF : FarmL G C P a := by assumption) (hx : x = (w : Int) := by first | rfl | omega) (hw : w < 4 := by omega) : SX2_restock G [.ref a, .int (zI x), .int (zI v)] C I P L (NV C (QF a I (up (rdF I a) (2 + w) v) P L)) := by
  obtain ⟨hB, hK, hK1, hK2, hK3, hP0, hP1, hP2, hP3, hfam⟩ := id hF
  refine en_V (by decide +kernel) (Nat.le_of_ble_eq_true rfl) ?_
  change Wd _ _ _ _ _ _ _ _ 0 [some _, some _, some _] [] _ _ _ _
  refine r_iload_n (pc := 0) dX2_restock_0 rfl ?_
  rcases (show x = 0 ∨ x = 1 ∨ x = 2 ∨ (x < 0 ∨ 2 < x) by omega) with h1 | h1 | h1 | h1
  · skip
    refine r_tsIn (pc := 1) 28 dX2_restock_1 (by omega) (by omega) (by omega) (by rw [h1]; rfl) (by decide) ?_
    refine r_aload_n (pc := 28) dX2_restock_28 rfl ?_
    refine r_iload_n (pc := 29) dX2_restock_29 rfl ?_
    refine r_putI (pc := 30) dX2_restock_30 fwX2_42 (by assumption) (by omega) ?_
    refine r_goto (pc := 33) 57 dX2_restock_33 (by decide) ?_
    refine t_vret (pc := 57) dX2_restock_57 rfl ?_
    obtain rfl : w = 0 := by omega
    exact ⟨rd_6 _ _ _, (outF.rf I a).u, rfl, rfl⟩
  · skip
    refine r_tsIn (pc := 1) 36 dX2_restock_1 (by omega) (by omega) (by omega) (by rw [h1]; rfl) (by decide) ?_
    refine r_aload_n (pc := 36) dX2_restock_36 rfl ?_
    refine r_iload_n (pc := 37) dX2_restock_37 rfl ?_
    refine r_putI (pc := 38) dX2_restock_38 fwX2_45 (by assumption) (by omega) ?_
    refine r_goto (pc := 41) 57 dX2_restock_41 (by decide) ?_
    refine t_vret (pc := 57) dX2_restock_57 rfl ?_
    obtain rfl : w = 1 := by omega
    exact ⟨rd_7 _ _ _, (outF.rf I a).u, rfl, rfl⟩
  · skip
    refine r_tsIn (pc := 1) 44 dX2_restock_1 (by omega) (by omega) (by omega) (by rw [h1]; rfl) (by decide) ?_
    refine r_aload_n (pc := 44) dX2_restock_44 rfl ?_
    refine r_iload_n (pc := 45) dX2_restock_45 rfl ?_
    refine r_putI (pc := 46) dX2_restock_46 fwX2_48 (by assumption) (by omega) ?_
    refine r_goto (pc := 49) 57 dX2_restock_49 (by decide) ?_
    refine t_vret (pc := 57) dX2_restock_57 rfl ?_
    obtain rfl : w = 2 := by omega
    exact ⟨rd_8 _ _ _, (outF.rf I a).u, rfl, rfl⟩
  · skip
    refine r_tsOut (pc := 1) 52 dX2_restock_1 (by omega) h1 (by decide) ?_
    refine r_aload_n (pc := 52) dX2_restock_52 rfl ?_
    refine r_iload_n (pc := 53) dX2_restock_53 rfl ?_
    refine r_putI (pc := 54) dX2_restock_54 fwX2_51 (by assumption) (by omega) ?_
    refine t_vret (pc := 57) dX2_restock_57 rfl ?_
    obtain rfl : w = 3 := by omega
    exact ⟨rd_9 _ _ _, (outF.rf I a).u, rfl, rfl⟩
def begF (F : Nat → Int) (y : Int) : Nat → Int := fun k => if k = 0 then y else if k < 7 ∨ k = 31 ∨ k = 32 then 0 else F k
theorem sX2_begin {G : WG} {C : CF} {I : MI} {P : MP} {L : ML} {a : Nat} {v : Int} (hF : FarmL G C P a := by assumption) : SX2_begin G [.ref a, .int (zI v)] C I P L (NV C (QF a I (begF (rdF I a) v) P L)) := by
  obtain ⟨hB, hK, hK1, hK2, hK3, hP0, hP1, hP2, hP3, hfam⟩ := id hF
  refine en_V (by decide +kernel) (Nat.le_of_ble_eq_true rfl) ?_
  change Wd _ _ _ _ _ _ _ _ 0 [some _, some _] [] _ _ _ _
  refine r_aload_n (pc := 0) dX2_begin_0 rfl ?_
  refine r_iload_n (pc := 1) dX2_begin_1 rfl ?_
  refine r_putI (pc := 2) dX2_begin_2 fwX2_35 (by assumption) (by omega) ?_
  refine r_aload_n (pc := 5) dX2_begin_5 rfl ?_
  refine r_iconst (pc := 6) dX2_begin_6 ?_
  refine r_putI (pc := 7) dX2_begin_7 fwX2_39 (by assumption) (by omega) ?_
  refine r_aload_n (pc := 10) dX2_begin_10 rfl ?_
  refine r_iconst (pc := 11) dX2_begin_11 ?_
  refine r_putI (pc := 12) dX2_begin_12 fwX2_42 (by assumption) (by omega) ?_
  refine r_aload_n (pc := 15) dX2_begin_15 rfl ?_
  refine r_iconst (pc := 16) dX2_begin_16 ?_
  refine r_putI (pc := 17) dX2_begin_17 fwX2_45 (by assumption) (by omega) ?_
  refine r_aload_n (pc := 20) dX2_begin_20 rfl ?_
  refine r_iconst (pc := 21) dX2_begin_21 ?_
  refine r_putI (pc := 22) dX2_begin_22 fwX2_48 (by assumption) (by omega) ?_
  refine r_aload_n (pc := 25) dX2_begin_25 rfl ?_
  refine r_iconst (pc := 26) dX2_begin_26 ?_
  refine r_putI (pc := 27) dX2_begin_27 fwX2_51 (by assumption) (by omega) ?_
  refine r_aload_n (pc := 30) dX2_begin_30 rfl ?_
  refine r_iconst (pc := 31) dX2_begin_31 ?_
  refine r_putI (pc := 32) dX2_begin_32 fwX2_54 (by assumption) (by omega) ?_
  refine r_aload_n (pc := 35) dX2_begin_35 rfl ?_
  refine r_iconst (pc := 36) dX2_begin_36 ?_
  refine r_putI (pc := 37) dX2_begin_37 fwX2_57 (by assumption) (by omega) ?_
  refine r_aload_n (pc := 40) dX2_begin_40 rfl ?_
  refine r_iconst (pc := 41) dX2_begin_41 ?_
  refine r_putI (pc := 42) dX2_begin_42 fwX2_60 (by assumption) (by omega) ?_
  refine t_vret (pc := 45) dX2_begin_45 rfl ?_
  refine ⟨?_, (outF.rf I a).u.u.u.u.u.u.u.u.u, rfl, rfl⟩
  rw [rd_12, rd_11, rd_10, rd_9, rd_8, rd_7, rd_6, rd_5, rd_4]
  funext k
  simp only [up_app, begF]
  (repeat' split) <;> omega
def jobsF (F : Nat → Int) (j : Int) : Nat → Nat → Int
  | 0 => F
  | n + 1 => up (jobsF F j n) (10 + 4 * n) j
theorem fx_jobs (F : Nat → Int) (j : Int) {k : Nat} (hk : ¬ (10 ≤ k ∧ k % 4 = 2)) : ∀ n, jobsF F j n k = F k := by
  intro n
  induction n with
  | zero => rfl
  | succ n ih => unfold jobsF; rw [up_n _ _ (by omega)]; exact ih
theorem FI_jobs {F : Nat → Int} {Y j : Int} (h : FI F Y) (hj : 0 ≤ j ∧ j ≤ 4) : ∀ n, FI (jobsF F j n) Y := by
  intro n
  induction n with
  | zero => exact h
  | succ n ih => exact FI_job ih hj.1 hj.2
theorem sX2_allDo {G : WG} {C : CF} {I : MI} {P : MP} {L : ML} {a : Nat} {Y j : Int} (hF : FarmL G C P a := by assumption) (hI : FI (rdF I a) Y := by assumption) : SX2_allDo G [.ref a, .int (zI j)] C I P L (NV C (QF a I (jobsF (rdF I a) j (sizeF (rdF I a))) P L)) := by
  obtain ⟨hB, hK, hK1, hK2, hK3, hP0, hP1, hP2, hP3, hfam⟩ := id hF
  obtain ⟨hs6, hsz⟩ := sizeF_le hI
  rw [← at_10] at hsz
  generalize hF' : jobsF (rdF I a) j = T
  generalize hq : QF a I (T (sizeF (rdF I a))) P L = q
  refine en_V (by decide +kernel) (Nat.le_of_ble_eq_true rfl) ?_
  change Wd _ _ _ _ _ _ _ _ 0 [some _, some _, none] [] _ _ _ _
  have loop : ∀ (d f : Nat) (i : Int) (I1 : MI), f + d = sizeF (rdF I a) → i = (f : Int) → rdF I1 a = T f → outF I I1 a → Wd G yX2_allDo cX2_allDo 3 none 1 (C.2.1 + 0, C.2.2 + 0) (NV C q) 2 [some (.ref a), some (.int (zI j)), some (.int (zI i))] [] C I1 P L := by
    intro d
    induction d using Nat.strongRecOn with
    | _ d ih =>
      intro f i I1 hd hi hT hO
      have h10 : I1 a 10 = I a 10 := by rw [at_10 I1 a, at_10 I a, hT, ← hF', fx_jobs _ _ (by omega)]
      refine r_iload_n (pc := 2) dX2_allDo_2 rfl ?_
      refine r_aload_n (pc := 3) dX2_allDo_3 rfl ?_
      refine r_getI (pc := 4) dX2_allDo_4 frX2_54 (by assumption) ?_
      refine r_icmp_ge (pc := 7) 25 dX2_allDo_7 (by decide) (by omega) (by omega) (fun h7 => ?_) (fun h7 => ?_)
      · skip
        refine t_vret (pc := 25) dX2_allDo_25 rfl ?_
        subst hq; exact ⟨by rw [hT]; congr 1; omega, hO, rfl, rfl⟩
      · skip
        have hf6 : f < 6 := by omega
        have hKf := (hfam f hf6).1
        refine r_aload_n (pc := 10) dX2_allDo_10 rfl ?_
        refine r_iload_n (pc := 11) dX2_allDo_11 rfl ?_
        refine i_V1rx (pc := 12) okX2_member inX2_member selX2_member q365 dX2_allDo_12 (by assumption) rfl (by decide) (Nat.le_of_ble_eq_true rfl) (sX2_member (f := f)) ?_
        refine r_iload_n (pc := 15) dX2_allDo_15 rfl ?_
        refine r_putI (pc := 16) dX2_allDo_16 fwX2_87 (by assumption) (by omega) ?_
        refine r_iinc (pc := 19) dX2_allDo_19 rfl ?_
        refine r_goto (pc := 22) 2 dX2_allDo_22 (by decide) ?_
        exact ih (d - 1) (by omega) (f + 1) _ _ (by omega) (by omega) (by rw [rd_j _ _ _ hf6, hT, ← hF', jobsF]) hO.u
  refine r_iconst (pc := 0) dX2_allDo_0 ?_
  refine r_istore_n (pc := 1) dX2_allDo_1 (by decide) ?_
  exact loop (sizeF (rdF I a)) 0 _ _ (by omega) (by omega) (by rw [← hF']; rfl) (outF.rf I a)
/-- those of a set alone teach -/
def teachOf (F : Nat → Int) (s : Nat) : Nat → Nat → Int
  | 0 => F
  | n + 1 => up (teachOf F s n) (10 + 4 * n) (if s.testBit n then 1 else if F (10 + 4 * n) = 1 then 0 else F (10 + 4 * n))
theorem fx_tof (F : Nat → Int) (s : Nat) {k : Nat} (hk : ¬ (10 ≤ k ∧ k % 4 = 2)) : ∀ n, teachOf F s n k = F k := by
  intro n
  induction n with
  | zero => rfl
  | succ n ih => unfold teachOf; rw [up_n _ _ (by omega)]; exact ih
theorem tof_hi (F : Nat → Int) (s : Nat) : ∀ n g, n ≤ g → teachOf F s n (10 + 4 * g) = F (10 + 4 * g) := by
  intro n
  induction n with
  | zero => intro g _; rfl
  | succ n ih => intro g hg; unfold teachOf; rw [up_n _ _ (by omega)]; exact ih g (by omega)
theorem FI_tof {F : Nat → Int} {Y : Int} (h : FI F Y) (s : Nat) : ∀ n, n ≤ 6 → FI (teachOf F s n) Y := by
  intro n
  induction n with
  | zero => intro _; exact h
  | succ n ih =>
    intro hn
    have h1 := (h.2.2.2.2.2.2.2 n (by omega)).2.2.2.1
    refine FI_job (ih (by omega)) ?_ ?_
    · split
      · omega
      · split <;> omega
    · split
      · omega
      · split <;> omega
theorem sX2_onlyTeach {G : WG} {C : CF} {I : MI} {P : MP} {L : ML} {a s : Nat} {Y : Int} (hF : FarmL G C P a := by assumption) (hI : FI (rdF I a) Y := by assumption) (hs : s < 2147483648 := by omega) : SX2_onlyTeach G [.ref a, .int (zI (s : Int))] C I P L (NV C (QF a I (teachOf (rdF I a) s (sizeF (rdF I a))) P L)) := by
  obtain ⟨hB, hK, hK1, hK2, hK3, hP0, hP1, hP2, hP3, hfam⟩ := id hF
  obtain ⟨hs6, hsz⟩ := sizeF_le hI
  rw [← at_10] at hsz
  generalize hF' : teachOf (rdF I a) s = T
  generalize hq : QF a I (T (sizeF (rdF I a))) P L = q
  refine en_V (by decide +kernel) (Nat.le_of_ble_eq_true rfl) ?_
  change Wd _ _ _ _ _ _ _ _ 0 [some _, some _, none, none] [] _ _ _ _
  have loop : ∀ (d f : Nat) (i : Int) (x : Option Value) (I1 : MI), f + d = sizeF (rdF I a) → i = (f : Int) → rdF I1 a = T f → outF I I1 a → Wd G yX2_onlyTeach cX2_onlyTeach 4 none 1 (C.2.1 + 0, C.2.2 + 0) (NV C q) 2 [some (.ref a), some (.int (zI (s : Int))), some (.int (zI i)), x] [] C I1 P L := by
    intro d
    induction d using Nat.strongRecOn with
    | _ d ih =>
      intro f i x I1 hd hi hT hO
      have h10 : I1 a 10 = I a 10 := by rw [at_10 I1 a, at_10 I a, hT, ← hF', fx_tof _ _ (by omega)]
      have hI1 : FI (rdF I1 a) Y := by rw [hT, ← hF']; exact FI_tof hI s f (by omega)
      refine r_iload_n (pc := 2) dX2_onlyTeach_2 rfl ?_
      refine r_aload_n (pc := 3) dX2_onlyTeach_3 rfl ?_
      refine r_getI (pc := 4) dX2_onlyTeach_4 frX2_54 (by assumption) ?_
      refine r_icmp_ge (pc := 7) 51 dX2_onlyTeach_7 (by decide) (by first | omega | exact iR_b _) (by first | omega | exact iR_b _) (fun h7 => ?_) (fun h7 => ?_)
      · skip
        refine t_vret (pc := 51) dX2_onlyTeach_51 rfl ?_
        subst hq; exact ⟨by rw [hT]; congr 1; omega, hO, rfl, rfl⟩
      · skip
        have hf6 : f < 6 := by omega
        have hKf := (hfam f hf6).1
        have hbit : b_and (b_shr (s : Int) i) 1 = if s.testBit f then 1 else 0 := by rw [hi]; exact b_bit hs (by omega)
        have ej := at_j I1 a hf6
        have hb := (hI1.2.2.2.2.2.2.2 f hf6).2.2.2.1
        rw [← ej] at hb
        have hT1 : T (f + 1) = up (T f) (10 + 4 * f) (if s.testBit f then 1 else if I1 (a + 4 + f) 4 = 1 then 0 else I1 (a + 4 + f) 4) := by rw [ej, hT, ← hF', teachOf, tof_hi _ _ f f (Nat.le_refl f)]
        refine r_aload_n (pc := 10) dX2_onlyTeach_10 rfl ?_
        refine r_iload_n (pc := 11) dX2_onlyTeach_11 rfl ?_
        refine i_V1rx (pc := 12) okX2_member inX2_member selX2_member q365 dX2_onlyTeach_12 (by assumption) rfl (by decide) (Nat.le_of_ble_eq_true rfl) (sX2_member (f := f)) ?_
        refine r_astore_n (pc := 15) dX2_onlyTeach_15 (by decide) ?_
        refine r_iload_n (pc := 16) dX2_onlyTeach_16 rfl ?_
        refine r_iload_n (pc := 17) dX2_onlyTeach_17 rfl ?_
        refine r_ishr (pc := 18) dX2_onlyTeach_18 ?_
        refine r_iconst (pc := 19) dX2_onlyTeach_19 ?_
        refine r_iand (pc := 20) dX2_onlyTeach_20 ?_
        rw [hbit]
        refine r_if_eq (pc := 21) 32 dX2_onlyTeach_21 (by decide) (by first | omega | exact iR_b _) (fun h21 => ?_) (fun h21 => ?_)
        · skip
          refine r_aload_n (pc := 32) dX2_onlyTeach_32 rfl ?_
          refine r_getI (pc := 33) dX2_onlyTeach_33 frX2_87 (by assumption) ?_
          refine r_iconst (pc := 36) dX2_onlyTeach_36 ?_
          refine r_icmp_ne (pc := 37) 45 dX2_onlyTeach_37 (by decide) (by first | omega | exact iR_b _) (by first | omega | exact iR_b _) (fun h37 => ?_) (fun h37 => ?_)
          · skip
            refine r_iinc (pc := 45) dX2_onlyTeach_45 rfl ?_
            refine r_goto (pc := 48) 2 dX2_onlyTeach_48 (by decide) ?_
            exact ih (d - 1) (by omega) (f + 1) _ _ _ (by omega) (by omega) (by rw [hT1, if_neg (by intro hz; rw [hz] at h21; simp at h21), if_neg h37, ej, ← hT, up_self]) hO
          · skip
            refine r_aload_n (pc := 40) dX2_onlyTeach_40 rfl ?_
            refine r_iconst (pc := 41) dX2_onlyTeach_41 ?_
            refine r_putI (pc := 42) dX2_onlyTeach_42 fwX2_87 (by assumption) (by first | omega | exact iR_b _) ?_
            refine r_iinc (pc := 45) dX2_onlyTeach_45 rfl ?_
            refine r_goto (pc := 48) 2 dX2_onlyTeach_48 (by decide) ?_
            exact ih (d - 1) (by omega) (f + 1) _ _ _ (by omega) (by omega) (by rw [rd_j _ _ _ hf6, hT, hT1, if_neg (by intro hz; rw [hz] at h21; simp at h21), if_pos h37]) hO.u
        · skip
          refine r_aload_n (pc := 24) dX2_onlyTeach_24 rfl ?_
          refine r_iconst (pc := 25) dX2_onlyTeach_25 ?_
          refine r_putI (pc := 26) dX2_onlyTeach_26 fwX2_87 (by assumption) (by first | omega | exact iR_b _) ?_
          refine r_goto (pc := 29) 45 dX2_onlyTeach_29 (by decide) ?_
          refine r_iinc (pc := 45) dX2_onlyTeach_45 rfl ?_
          refine r_goto (pc := 48) 2 dX2_onlyTeach_48 (by decide) ?_
          exact ih (d - 1) (by omega) (f + 1) _ _ _ (by omega) (by omega) (by rw [rd_j _ _ _ hf6, hT, hT1, if_pos (by cases hz : s.testBit f <;> simp_all)]) hO.u
  refine r_iconst (pc := 0) dX2_onlyTeach_0 ?_
  refine r_istore_n (pc := 1) dX2_onlyTeach_1 (by decide) ?_
  exact loop (sizeF (rdF I a)) 0 _ _ _ (by omega) (by omega) (by rw [← hF']; rfl) (outF.rf I a)
def knowF (F : Nat → Int) : Nat → Bool
  | 0 => true
  | n + 1 => knowF F n && decide (0 < F (9 + 4 * n))
theorem know_no (F : Nat → Int) {f : Nat} (h : ¬ 0 < F (9 + 4 * f)) : ∀ n, f < n → knowF F n = false := by
  intro n
  induction n with
  | zero => intro h; omega
  | succ n ih =>
    intro hn
    unfold knowF
    by_cases hf : f = n
    · subst hf; simp [h]
    · rw [ih (by omega)]; rfl
theorem sX2_allKnow {G : WG} {C : CF} {I : MI} {P : MP} {L : ML} {a : Nat} {Y : Int} (hF : FarmL G C P a := by assumption) (hI : FI (rdF I a) Y := by assumption) : SX2_allKnow G [.ref a] C I P L (NI C (XI (if knowF (rdF I a) (sizeF (rdF I a)) then 1 else 0) I P L)) := by
  obtain ⟨hB, hK, hK1, hK2, hK3, hP0, hP1, hP2, hP3, hfam⟩ := id hF
  obtain ⟨hs6, hsz⟩ := sizeF_le hI
  rw [← at_10] at hsz
  generalize hq : XI (if knowF (rdF I a) (sizeF (rdF I a)) then 1 else 0) I P L = q
  refine en_I (by decide +kernel) (Nat.le_of_ble_eq_true rfl) ?_
  change Wd _ _ _ _ _ _ _ _ 0 [some _, none] [] _ _ _ _
  have loop : ∀ (d f : Nat) (i : Int), f + d = sizeF (rdF I a) → i = (f : Int) → knowF (rdF I a) f = true → Wd G yX2_allKnow cX2_allKnow 2 (some .boolean) 1 (C.2.1 + 0, C.2.2 + 0) (NI C q) 2 [some (.ref a), some (.int (zI i))] [] C I P L := by
    intro d
    induction d using Nat.strongRecOn with
    | _ d ih =>
      intro f i hd hi hk
      refine r_iload_n (pc := 2) dX2_allKnow_2 rfl ?_
      refine r_aload_n (pc := 3) dX2_allKnow_3 rfl ?_
      refine r_getI (pc := 4) dX2_allKnow_4 frX2_54 (by assumption) ?_
      refine r_icmp_ge (pc := 7) 29 dX2_allKnow_7 (by decide) (by omega) (by omega) (fun h7 => ?_) (fun h7 => ?_)
      · skip
        refine r_iconst (pc := 29) dX2_allKnow_29 ?_
        refine t_iret (pc := 30) dX2_allKnow_30 rfl rfl ?_
        subst hq; exact ⟨by rw [show sizeF (rdF I a) = f by omega, hk]; rfl, rfl, rfl, rfl⟩
      · skip
        have hf6 : f < 6 := by omega
        have hKf := (hfam f hf6).1
        have ey := at_y I a hf6
        have hb := (hI.2.2.2.2.2.2.2 f hf6).2.2.1
        rw [← ey] at hb
        refine r_aload_n (pc := 10) dX2_allKnow_10 rfl ?_
        refine r_iload_n (pc := 11) dX2_allKnow_11 rfl ?_
        refine i_V1rx (pc := 12) okX2_member inX2_member selX2_member q365 dX2_allKnow_12 (by assumption) rfl (by decide) (Nat.le_of_ble_eq_true rfl) (sX2_member (f := f)) ?_
        refine r_getI (pc := 15) dX2_allKnow_15 frX2_78 (by assumption) ?_
        refine r_if_gt (pc := 18) 23 dX2_allKnow_18 (by decide) (by omega) (fun h18 => ?_) (fun h18 => ?_)
        · skip
          refine r_iinc (pc := 23) dX2_allKnow_23 rfl ?_
          refine r_goto (pc := 26) 2 dX2_allKnow_26 (by decide) ?_
          exact ih (d - 1) (by omega) (f + 1) _ (by omega) (by omega) (by unfold knowF; rw [hk, ← ey]; simp; omega)
        · skip
          refine r_iconst (pc := 21) dX2_allKnow_21 ?_
          refine t_iret (pc := 22) dX2_allKnow_22 rfl rfl ?_
          subst hq; exact ⟨by rw [know_no (rdF I a) (f := f) (by rw [← ey]; omega) _ (by omega)]; rfl, rfl, rfl, rfl⟩
  refine r_iconst (pc := 0) dX2_allKnow_0 ?_
  refine r_istore_n (pc := 1) dX2_allKnow_1 (by decide) ?_
  exact loop (sizeF (rdF I a)) 0 _ (by omega) (by omega) rfl
def mixF (F : Nat → Int) (h : Int) : Nat → Int
  | 0 => h
  | n + 1 => 31 * (31 * (31 * (31 * mixF F h n + F (7 + 4 * n)) + F (8 + 4 * n)) + F (9 + 4 * n)) + F (10 + 4 * n)

