/-! the law's small methods -/
theorem sL_cell {G : WG} {C : CF} {I : MI} {P : MP} {L : ML} {b Ln k : Nat} {sx : Nat → Int} {x : Int} (hK : C.1 b = some (.inr (0, Ln))) (hs : ∀ j, j < Ln → I b j = sx j) (hL : Ln ≤ 260 := by omega) (hx : x = (k : Int) := by first | rfl | omega) (hk : k ≤ 60 := by omega) : SL_cell G [.ref b, .int (zI x)] C I P L (NI C (XI (cellV sx Ln k) I P L)) := by
  subst hx
  refine en_I (by decide +kernel) (Nat.le_of_ble_eq_true rfl) ?_
  change Wd _ _ _ _ _ _ _ _ 0 [some _, some _] [] _ _ _ _
  refine r_iload_n (pc := 0) dL_cell_0 rfl ?_
  refine r_aload_n (pc := 1) dL_cell_1 rfl ?_
  refine r_alen (pc := 2) dL_cell_2 (by assumption) ?_
  refine r_icmp_ge (pc := 3) 12 dL_cell_3 (by decide) (by omega) (by omega) (fun h3 => ?_) (fun h3 => ?_)
  · skip
    refine r_ldc (v := (1327217884 : Int)) (pc := 12) dL_cell_12 kcL_7 ?_
    refine r_iload_n (pc := 14) dL_cell_14 rfl ?_
    refine r_sipush (pc := 15) dL_cell_15 (by decide) ?_
    refine r_iadd (pc := 18) dL_cell_18 ?_
    refine r_imul (pc := 19) dL_cell_19 ?_
    refine r_iconst (pc := 20) dL_cell_20 ?_
    refine r_iadd (pc := 21) dL_cell_21 ?_
    refine t_iret (pc := 22) dL_cell_22 rfl rfl ?_
    exact ⟨by unfold cellV; rw [if_neg (by omega)], rfl, rfl, rfl⟩
  · skip
    refine r_aload_n (pc := 6) dL_cell_6 rfl ?_
    refine r_iload_n (pc := 7) dL_cell_7 rfl ?_
    refine r_iald (j := k) (pc := 8) dL_cell_8 (by assumption) (by omega) (by omega) (by omega) ?_
    refine r_goto (pc := 9) 22 dL_cell_9 (by decide) ?_
    refine t_iret (pc := 22) dL_cell_22 rfl rfl ?_
    exact ⟨by unfold cellV; rw [if_pos (by omega), hs k (by omega)], rfl, rfl, rfl⟩
theorem sL_up {G : WG} {C : CF} {I : MI} {P : MP} {L : ML} {v m : Int} (hm : 1 ≤ m ∧ m ≤ 1000000 := by omega) : SL_up G [.int (zI v), .int (zI m)] C I P L (NI C (XI (upV v m) I P L)) := by
  have h1 := b_low v
  have h2 : iR (b_and v 2147483647) := iR_self _
  refine en_I (by decide +kernel) (Nat.le_of_ble_eq_true rfl) ?_
  change Wd _ _ _ _ _ _ _ _ 0 [some _, some _] [] _ _ _ _
  refine r_iload_n (pc := 0) dL_up_0 rfl ?_
  refine r_ldc (v := (2147483647 : Int)) (pc := 1) dL_up_1 kcL_8 ?_
  refine r_iand (pc := 3) dL_up_3 ?_
  refine r_iload_n (pc := 4) dL_up_4 rfl ?_
  refine r_irem (pc := 5) dL_up_5 (by omega) (by omega) (by omega) (by omega) ?_
  refine t_iret (pc := 6) dL_up_6 rfl rfl ?_
  exact ⟨rfl, rfl, rfl, rfl⟩
section SMALL
variable {G : WG} {C : CF} {I : MI} {P : MP} {L : ML} {b Ln f : Nat} {sx : Nat → Int} {x : Int}
theorem sL_years (hK : C.1 b = some (.inr (0, Ln))) (hs : ∀ j, j < Ln → I b j = sx j) (hL : Ln ≤ 260 := by omega) : SL_years G [.ref b] C I P L (NI C (XI (yearsV sx Ln) I P L)) := by
  have u1 := upV_in (b_shr (cellV sx Ln 0) 20) (m := 4) (by decide)
  refine en_I (by decide +kernel) (Nat.le_of_ble_eq_true rfl) ?_
  change Wd _ _ _ _ _ _ _ _ 0 [some _] [] _ _ _ _
  refine r_iconst (pc := 0) dL_years_0 ?_
  refine r_aload_n (pc := 1) dL_years_1 rfl ?_
  refine r_iconst (pc := 2) dL_years_2 ?_
  refine i_S2ix (pc := 3) okL_cell staL_cell q692 dL_years_3 (by decide) (Nat.le_of_ble_eq_true rfl) (sL_cell (k := 0) hK hs) ?_
  refine r_aload_n (pc := 6) dL_years_6 rfl ?_
  refine r_iconst (pc := 7) dL_years_7 ?_
  refine i_S2ix (pc := 8) okL_cell staL_cell q692 dL_years_8 (by decide) (Nat.le_of_ble_eq_true rfl) (sL_cell (k := 0) hK hs) ?_
  refine r_bipush (pc := 11) dL_years_11 (by decide) ?_
  refine r_ishr (pc := 13) dL_years_13 ?_
  refine r_iconst (pc := 14) dL_years_14 ?_
  refine i_S2ix (pc := 15) okL_up staL_up q696 dL_years_15 (by decide) (Nat.le_of_ble_eq_true rfl) (sL_up) ?_
  refine r_if_ne (pc := 18) 26 dL_years_18 (by decide) (by omega) (fun h18 => ?_) (fun h18 => ?_)
  · skip
    refine r_bipush (pc := 26) dL_years_26 (by decide) ?_
    refine i_S2ix (pc := 28) okL_up staL_up q696 dL_years_28 (by decide) (Nat.le_of_ble_eq_true rfl) (sL_up) ?_
    refine r_iadd (pc := 31) dL_years_31 ?_
    refine t_iret (pc := 32) dL_years_32 rfl rfl ?_
    exact ⟨by unfold yearsV; rw [if_neg h18], rfl, rfl, rfl⟩
  · skip
    refine r_bipush (pc := 21) dL_years_21 (by decide) ?_
    refine r_goto (pc := 23) 28 dL_years_23 (by decide) ?_
    refine i_S2ix (pc := 28) okL_up staL_up q696 dL_years_28 (by decide) (Nat.le_of_ble_eq_true rfl) (sL_up) ?_
    refine r_iadd (pc := 31) dL_years_31 ?_
    refine t_iret (pc := 32) dL_years_32 rfl rfl ?_
    exact ⟨by unfold yearsV; rw [if_pos h18], rfl, rfl, rfl⟩
theorem sL_store (hK : C.1 b = some (.inr (0, Ln))) (hs : ∀ j, j < Ln → I b j = sx j) (hL : Ln ≤ 260 := by omega) (hx : x = (f : Int) := by first | rfl | omega) (hf : f < 6 := by omega) : SL_store G [.ref b, .int (zI x)] C I P L (NI C (XI (storeV sx Ln f) I P L)) := by
  subst hx
  have u1 := upV_in (b_shr (cellV sx Ln 1) 24) (m := 3) (by decide)
  refine en_I (by decide +kernel) (Nat.le_of_ble_eq_true rfl) ?_
  change Wd _ _ _ _ _ _ _ _ 0 [some _, some _] [] _ _ _ _
  refine r_aload_n (pc := 0) dL_store_0 rfl ?_
  refine r_iconst (pc := 1) dL_store_1 ?_
  refine r_iload_n (pc := 2) dL_store_2 rfl ?_
  refine r_iadd (pc := 3) dL_store_3 ?_
  refine i_S2ix (pc := 4) okL_cell staL_cell q692 dL_store_4 (by decide) (Nat.le_of_ble_eq_true rfl) (sL_cell (k := 1 + f) hK hs) ?_
  refine r_iload_n (pc := 7) dL_store_7 rfl ?_
  refine r_if_ne (pc := 8) 38 dL_store_8 (by decide) (by omega) (fun h8 => ?_) (fun h8 => ?_)
  · skip
    refine r_bipush (pc := 38) dL_store_38 (by decide) ?_
    refine i_S2ix (pc := 40) okL_up staL_up q696 dL_store_40 (by decide) (Nat.le_of_ble_eq_true rfl) (sL_up) ?_
    refine t_iret (pc := 43) dL_store_43 rfl rfl ?_
    exact ⟨by unfold storeV; rw [if_neg (by omega)], rfl, rfl, rfl⟩
  · skip
    refine r_aload_n (pc := 11) dL_store_11 rfl ?_
    refine r_iconst (pc := 12) dL_store_12 ?_
    refine i_S2ix (pc := 13) okL_cell staL_cell q692 dL_store_13 (by decide) (Nat.le_of_ble_eq_true rfl) (sL_cell (k := 1) hK hs) ?_
    refine r_bipush (pc := 16) dL_store_16 (by decide) ?_
    refine r_ishr (pc := 18) dL_store_18 ?_
    refine r_iconst (pc := 19) dL_store_19 ?_
    refine i_S2ix (pc := 20) okL_up staL_up q696 dL_store_20 (by decide) (Nat.le_of_ble_eq_true rfl) (sL_up) ?_
    refine r_if_ne (pc := 23) 32 dL_store_23 (by decide) (by omega) (fun h23 => ?_) (fun h23 => ?_)
    · skip
      refine r_sipush (pc := 32) dL_store_32 (by decide) ?_
      refine r_goto (pc := 35) 40 dL_store_35 (by decide) ?_
      refine i_S2ix (pc := 40) okL_up staL_up q696 dL_store_40 (by decide) (Nat.le_of_ble_eq_true rfl) (sL_up) ?_
      refine t_iret (pc := 43) dL_store_43 rfl rfl ?_
      exact ⟨by unfold storeV; rw [if_pos (by omega), if_neg h23], rfl, rfl, rfl⟩
    · skip
      refine r_sipush (pc := 26) dL_store_26 (by decide) ?_
      refine r_goto (pc := 29) 40 dL_store_29 (by decide) ?_
      refine i_S2ix (pc := 40) okL_up staL_up q696 dL_store_40 (by decide) (Nat.le_of_ble_eq_true rfl) (sL_up) ?_
      refine t_iret (pc := 43) dL_store_43 rfl rfl ?_
      exact ⟨by unfold storeV; rw [if_pos (by omega), if_pos h23], rfl, rfl, rfl⟩
theorem sL_families (hK : C.1 b = some (.inr (0, Ln))) (hs : ∀ j, j < Ln → I b j = sx j) (hL : Ln ≤ 260 := by omega) : SL_families G [.ref b] C I P L (NI C (XI (upV (cellV sx Ln 5) 7) I P L)) := by
  refine en_I (by decide +kernel) (Nat.le_of_ble_eq_true rfl) ?_
  change Wd _ _ _ _ _ _ _ _ 0 [some _] [] _ _ _ _
  refine r_aload_n (pc := 0) dL_families_0 rfl ?_
  refine r_iconst (pc := 1) dL_families_1 ?_
  refine i_S2ix (pc := 2) okL_cell staL_cell q692 dL_families_2 (by decide) (Nat.le_of_ble_eq_true rfl) (sL_cell (k := 5) hK hs) ?_
  refine r_bipush (pc := 5) dL_families_5 (by decide) ?_
  refine i_S2ix (pc := 7) okL_up staL_up q696 dL_families_7 (by decide) (Nat.le_of_ble_eq_true rfl) (sL_up) ?_
  refine t_iret (pc := 10) dL_families_10 rfl rfl ?_
  exact ⟨rfl, rfl, rfl, rfl⟩
theorem sL_kind (hK : C.1 b = some (.inr (0, Ln))) (hs : ∀ j, j < Ln → I b j = sx j) (hL : Ln ≤ 260 := by omega) (hx : x = (f : Int) := by first | rfl | omega) (hf : f < 6 := by omega) : SL_kind G [.ref b, .int (zI x)] C I P L (NI C (XI (kindV sx Ln f) I P L)) := by
  subst hx
  refine en_I (by decide +kernel) (Nat.le_of_ble_eq_true rfl) ?_
  change Wd _ _ _ _ _ _ _ _ 0 [some _, some _] [] _ _ _ _
  refine r_aload_n (pc := 0) dL_kind_0 rfl ?_
  refine r_bipush (pc := 1) dL_kind_1 (by decide) ?_
  refine r_iload_n (pc := 3) dL_kind_3 rfl ?_
  refine r_iadd (pc := 4) dL_kind_4 ?_
  refine i_S2ix (pc := 5) okL_cell staL_cell q692 dL_kind_5 (by decide) (Nat.le_of_ble_eq_true rfl) (sL_cell (k := 6 + f) hK hs) ?_
  refine r_iconst (pc := 8) dL_kind_8 ?_
  refine i_S2ix (pc := 9) okL_up staL_up q696 dL_kind_9 (by decide) (Nat.le_of_ble_eq_true rfl) (sL_up) ?_
  refine t_iret (pc := 12) dL_kind_12 rfl rfl ?_
  exact ⟨rfl, rfl, rfl, rfl⟩
theorem sL_mouths (hK : C.1 b = some (.inr (0, Ln))) (hs : ∀ j, j < Ln → I b j = sx j) (hL : Ln ≤ 260 := by omega) (hx : x = (f : Int) := by first | rfl | omega) (hf : f < 6 := by omega) : SL_mouths G [.ref b, .int (zI x)] C I P L (NI C (XI (mouthsV sx Ln f) I P L)) := by
  subst hx
  have u1 := upV_in (b_shr (cellV sx Ln (6 + f)) 20) (m := 3) (by decide)
  refine en_I (by decide +kernel) (Nat.le_of_ble_eq_true rfl) ?_
  change Wd _ _ _ _ _ _ _ _ 0 [some _, some _] [] _ _ _ _
  refine r_iconst (pc := 0) dL_mouths_0 ?_
  refine r_aload_n (pc := 1) dL_mouths_1 rfl ?_
  refine r_bipush (pc := 2) dL_mouths_2 (by decide) ?_
  refine r_iload_n (pc := 4) dL_mouths_4 rfl ?_
  refine r_iadd (pc := 5) dL_mouths_5 ?_
  refine i_S2ix (pc := 6) okL_cell staL_cell q692 dL_mouths_6 (by decide) (Nat.le_of_ble_eq_true rfl) (sL_cell (k := 6 + f) hK hs) ?_
  refine r_iconst (pc := 9) dL_mouths_9 ?_
  refine r_ishr (pc := 10) dL_mouths_10 ?_
  refine r_aload_n (pc := 11) dL_mouths_11 rfl ?_
  refine r_bipush (pc := 12) dL_mouths_12 (by decide) ?_
  refine r_iload_n (pc := 14) dL_mouths_14 rfl ?_
  refine r_iadd (pc := 15) dL_mouths_15 ?_
  refine i_S2ix (pc := 16) okL_cell staL_cell q692 dL_mouths_16 (by decide) (Nat.le_of_ble_eq_true rfl) (sL_cell (k := 6 + f) hK hs) ?_
  refine r_bipush (pc := 19) dL_mouths_19 (by decide) ?_
  refine r_ishr (pc := 21) dL_mouths_21 ?_
  refine r_iconst (pc := 22) dL_mouths_22 ?_
  refine i_S2ix (pc := 23) okL_up staL_up q696 dL_mouths_23 (by decide) (Nat.le_of_ble_eq_true rfl) (sL_up) ?_
  refine r_if_ne (pc := 26) 34 dL_mouths_26 (by decide) (by omega) (fun h26 => ?_) (fun h26 => ?_)
  · skip
    refine r_iconst (pc := 34) dL_mouths_34 ?_
    refine i_S2ix (pc := 35) okL_up staL_up q696 dL_mouths_35 (by decide) (Nat.le_of_ble_eq_true rfl) (sL_up) ?_
    refine r_iadd (pc := 38) dL_mouths_38 ?_
    refine t_iret (pc := 39) dL_mouths_39 rfl rfl ?_
    exact ⟨by unfold mouthsV; rw [if_neg h26], rfl, rfl, rfl⟩
  · skip
    refine r_bipush (pc := 29) dL_mouths_29 (by decide) ?_
    refine r_goto (pc := 31) 35 dL_mouths_31 (by decide) ?_
    refine i_S2ix (pc := 35) okL_up staL_up q696 dL_mouths_35 (by decide) (Nat.le_of_ble_eq_true rfl) (sL_up) ?_
    refine r_iadd (pc := 38) dL_mouths_38 ?_
    refine t_iret (pc := 39) dL_mouths_39 rfl rfl ?_
    exact ⟨by unfold mouthsV; rw [if_pos h26], rfl, rfl, rfl⟩
theorem sL_memory (hK : C.1 b = some (.inr (0, Ln))) (hs : ∀ j, j < Ln → I b j = sx j) (hL : Ln ≤ 260 := by omega) (hx : x = (f : Int) := by first | rfl | omega) (hf : f < 6 := by omega) : SL_memory G [.ref b, .int (zI x)] C I P L (NI C (XI (memoryV sx Ln f) I P L)) := by
  subst hx
  refine en_I (by decide +kernel) (Nat.le_of_ble_eq_true rfl) ?_
  change Wd _ _ _ _ _ _ _ _ 0 [some _, some _] [] _ _ _ _
  refine r_aload_n (pc := 0) dL_memory_0 rfl ?_
  refine r_bipush (pc := 1) dL_memory_1 (by decide) ?_
  refine r_iload_n (pc := 3) dL_memory_3 rfl ?_
  refine r_iadd (pc := 4) dL_memory_4 ?_
  refine i_S2ix (pc := 5) okL_cell staL_cell q692 dL_memory_5 (by decide) (Nat.le_of_ble_eq_true rfl) (sL_cell (k := 6 + f) hK hs) ?_
  refine r_bipush (pc := 8) dL_memory_8 (by decide) ?_
  refine r_ishr (pc := 10) dL_memory_10 ?_
  refine r_bipush (pc := 11) dL_memory_11 (by decide) ?_
  refine i_S2ix (pc := 13) okL_up staL_up q696 dL_memory_13 (by decide) (Nat.le_of_ble_eq_true rfl) (sL_up) ?_
  refine t_iret (pc := 16) dL_memory_16 rfl rfl ?_
  exact ⟨rfl, rfl, rfl, rfl⟩
theorem sL_job (hK : C.1 b = some (.inr (0, Ln))) (hs : ∀ j, j < Ln → I b j = sx j) (hL : Ln ≤ 260 := by omega) (hx : x = (f : Int) := by first | rfl | omega) (hf : f < 6 := by omega) : SL_job G [.ref b, .int (zI x)] C I P L (NI C (XI (jobV sx Ln f) I P L)) := by
  subst hx
  refine en_I (by decide +kernel) (Nat.le_of_ble_eq_true rfl) ?_
  change Wd _ _ _ _ _ _ _ _ 0 [some _, some _] [] _ _ _ _
  refine r_aload_n (pc := 0) dL_job_0 rfl ?_
  refine r_bipush (pc := 1) dL_job_1 (by decide) ?_
  refine r_iload_n (pc := 3) dL_job_3 rfl ?_
  refine r_iadd (pc := 4) dL_job_4 ?_
  refine i_S2ix (pc := 5) okL_cell staL_cell q692 dL_job_5 (by decide) (Nat.le_of_ble_eq_true rfl) (sL_cell (k := 6 + f) hK hs) ?_
  refine r_bipush (pc := 8) dL_job_8 (by decide) ?_
  refine r_ishr (pc := 10) dL_job_10 ?_
  refine r_iconst (pc := 11) dL_job_11 ?_
  refine i_S2ix (pc := 12) okL_up staL_up q696 dL_job_12 (by decide) (Nat.le_of_ble_eq_true rfl) (sL_up) ?_
  refine t_iret (pc := 15) dL_job_15 rfl rfl ?_
  exact ⟨rfl, rfl, rfl, rfl⟩
end SMALL
/-! the lump that the law makes -/
def M1 (R : LSt × LSt × (Nat → Int) × Int × Int × Int × Int × Int × Int × Int) (st : Nat → Int) (i : Nat) (S : YS) : Prop := S.2 = R ∧ S.1.2.1 33 = 0 ∧ S.1.2.2.2.1 = 0 ∧ S.1.1 1 = 0 ∧ S.1.1 6 = 0 ∧ S.1.1 31 = 0 ∧ S.1.1 32 = 0 ∧ ∀ j, j < 4 → S.1.1 (2 + j) = if j < i then st j else 0
def M2 (R : LSt × LSt × (Nat → Int) × Int × Int × Int × Int × Int × Int × Int) (st mo me : Nat → Int) (f : Nat) (S : YS) : Prop := S.2 = R ∧ S.1.2.1 33 = 0 ∧ S.1.2.2.2.1 = 0 ∧ S.1.1 1 = 0 ∧ S.1.1 6 = (f : Int) ∧ S.1.1 31 = 0 ∧ S.1.1 32 = 0 ∧ (∀ j, j < 4 → S.1.1 (2 + j) = st j) ∧ ∀ g, g < f → S.1.1 (8 + 4 * g) = mo g ∧ S.1.1 (9 + 4 * g) = me g
theorem m_year {R : LSt × LSt × (Nat → Int) × Int × Int × Int × Int × Int × Int × Int} {st : Nat → Int} {S : YS} {y : Int} (h : S.2 = R) (hy : 2 ≤ y ∧ y ≤ 70) : (yearS S y).1 = S.1.1 0 ∧ M1 R st 0 (yearS S y).2 := by
  have e : yearS S y = (S.1.1 0, yLu S (begL S.1 y)) := if_pos hy
  rw [e]
  refine ⟨rfl, h, ?_, rfl, rfl, rfl, rfl, rfl, fun j hj => ?_⟩
  · show begB S.1.2.1 33 = 0
    unfold begB
    rw [up_n _ _ (by decide), up_n _ _ (by decide), up_s]
  · show begF S.1.1 y (2 + j) = _
    rw [if_neg (Nat.not_lt_zero j)]
    unfold begF
    rw [if_neg (by omega), if_pos (by omega)]
theorem m_store {R : LSt × LSt × (Nat → Int) × Int × Int × Int × Int × Int × Int × Int} {st : Nat → Int} {S : YS} {i : Nat} (h : M1 R st i S) (hi : i < 4) (hs : 0 ≤ st i ∧ st i ≤ 9999) : (storeS S (i : Int) (st i)).1 = 0 ∧ M1 R st (i + 1) (storeS S (i : Int) (st i)).2 := by
  obtain ⟨h1, h2, h3, h4, h5, h6, h7, h8⟩ := h
  have e : storeS S (i : Int) (st i) = (S.1.1 (2 + i), yLu S (lF S.1 (up S.1.1 (2 + i) (st i)))) := by
    unfold storeS
    rw [if_pos ⟨by omega, hs⟩, Int.toNat_natCast]
  rw [e]
  refine ⟨?_, h1, h2, h3, ?_, ?_, ?_, ?_, fun j hj => ?_⟩
  · show S.1.1 (2 + i) = 0
    rw [h8 i hi, if_neg (by omega)]
  · show up S.1.1 (2 + i) (st i) 1 = 0
    rw [up_n _ _ (by omega)]; exact h4
  · show up S.1.1 (2 + i) (st i) 6 = 0
    rw [up_n _ _ (by omega)]; exact h5
  · show up S.1.1 (2 + i) (st i) 31 = 0
    rw [up_n _ _ (by omega)]; exact h6
  · show up S.1.1 (2 + i) (st i) 32 = 0
    rw [up_n _ _ (by omega)]; exact h7
  · show up S.1.1 (2 + i) (st i) (2 + j) = _
    rw [up_app]
    by_cases hji : j = i
    · subst hji; rw [if_pos rfl, if_pos (by omega)]
    · rw [if_neg (by omega), h8 j hj]
      by_cases hlt : j < i
      · rw [if_pos hlt, if_pos (by omega)]
      · rw [if_neg hlt, if_neg (by omega)]
theorem m_fam {R : LSt × LSt × (Nat → Int) × Int × Int × Int × Int × Int × Int × Int} {st mo me : Nat → Int} {S : YS} {f : Nat} {k : Int} (h : M2 R st mo me f S) (hf : f < 6) (hk : 0 ≤ k ∧ k ≤ 4) (hm : 1 ≤ mo f ∧ mo f ≤ 20) (hy : 0 ≤ me f ∧ me f ≤ 9) : (familyS S k (mo f) (me f)).1 = (f : Int) ∧ M2 R st mo me (f + 1) (familyS S k (mo f) (me f)).2 ∧ (familyS S k (mo f) (me f)).2.1.1 (10 + 4 * f) = 0 := by
  obtain ⟨h1, h2, h3, h4, h5, h6, h7, h8, h9⟩ := h
  have hz : sizeF S.1.1 = f := by unfold sizeF; omega
  have e : familyS S k (mo f) (me f) = (S.1.1 6, yLu S (lF S.1 (setlF S.1.1 f k (mo f) (me f)))) := by
    unfold familyS
    rw [if_pos ⟨⟨hk, hm⟩, hy⟩, if_pos (by omega), hz]
  rw [e]
  have v : ∀ j, setlF S.1.1 f k (mo f) (me f) j = if j = 10 + 4 * f then 0 else if j = 9 + 4 * f then me f else if j = 8 + 4 * f then mo f else if j = 7 + 4 * f then k else if j = 6 then S.1.1 6 + 1 else S.1.1 j := fun j => rfl
  refine ⟨h5, ⟨h1, h2, h3, ?_, ?_, ?_, ?_, fun j hj => ?_, fun g hg => ⟨?_, ?_⟩⟩, ?_⟩
  · show setlF S.1.1 f k (mo f) (me f) 1 = 0
    rw [v, if_neg (by omega), if_neg (by omega), if_neg (by omega), if_neg (by omega), if_neg (by omega)]; exact h4
  · show setlF S.1.1 f k (mo f) (me f) 6 = _
    rw [v, if_neg (by omega), if_neg (by omega), if_neg (by omega), if_neg (by omega), if_pos rfl]; omega
  · show setlF S.1.1 f k (mo f) (me f) 31 = 0
    rw [v, if_neg (by omega), if_neg (by omega), if_neg (by omega), if_neg (by omega), if_neg (by omega)]; exact h6
  · show setlF S.1.1 f k (mo f) (me f) 32 = 0
    rw [v, if_neg (by omega), if_neg (by omega), if_neg (by omega), if_neg (by omega), if_neg (by omega)]; exact h7
  · show setlF S.1.1 f k (mo f) (me f) (2 + j) = _
    rw [v, if_neg (by omega), if_neg (by omega), if_neg (by omega), if_neg (by omega), if_neg (by omega)]; exact h8 j hj
  · show setlF S.1.1 f k (mo f) (me f) (8 + 4 * g) = _
    by_cases hgf : g = f
    · subst hgf; rw [v, if_neg (by omega), if_neg (by omega), if_pos rfl]
    · rw [v, if_neg (by omega), if_neg (by omega), if_neg (by omega), if_neg (by omega), if_neg (by omega)]; exact (h9 g (by omega)).1
  · show setlF S.1.1 f k (mo f) (me f) (9 + 4 * g) = _
    by_cases hgf : g = f
    · subst hgf; rw [v, if_neg (by omega), if_pos rfl]
    · rw [v, if_neg (by omega), if_neg (by omega), if_neg (by omega), if_neg (by omega), if_neg (by omega)]; exact (h9 g (by omega)).2
  · show setlF S.1.1 f k (mo f) (me f) (10 + 4 * f) = 0
    rw [v, if_pos rfl]
theorem m_job {R : LSt × LSt × (Nat → Int) × Int × Int × Int × Int × Int × Int × Int} {st mo me : Nat → Int} {S : YS} {f : Nat} {j : Int} (h : M2 R st mo me (f + 1) S) (h0 : S.1.1 (10 + 4 * f) = 0) (hf : f < 6) (hj : 0 ≤ j ∧ j ≤ 4) : (jobS S (f : Int) j).1 = 0 ∧ M2 R st mo me (f + 1) (jobS S (f : Int) j).2 := by
  obtain ⟨h1, h2, h3, h4, h5, h6, h7, h8, h9⟩ := h
  have e : jobS S (f : Int) j = (S.1.1 (10 + 4 * f), yLu S (lF S.1 (up S.1.1 (10 + 4 * f) j))) := by
    unfold jobS
    rw [if_pos ⟨by omega, hj⟩, Int.toNat_natCast]
  rw [e]
  refine ⟨h0, h1, h2, h3, ?_, ?_, ?_, ?_, fun i hi => ?_, fun g hg => ⟨?_, ?_⟩⟩
  · show up S.1.1 (10 + 4 * f) j 1 = 0
    rw [up_n _ _ (by omega)]; exact h4
  · show up S.1.1 (10 + 4 * f) j 6 = _
    rw [up_n _ _ (by omega)]; exact h5
  · show up S.1.1 (10 + 4 * f) j 31 = 0
    rw [up_n _ _ (by omega)]; exact h6
  · show up S.1.1 (10 + 4 * f) j 32 = 0
    rw [up_n _ _ (by omega)]; exact h7
  · show up S.1.1 (10 + 4 * f) j (2 + i) = _
    rw [up_n _ _ (by omega)]; exact h8 i hi
  · show up S.1.1 (10 + 4 * f) j (8 + 4 * g) = _
    rw [up_n _ _ (by omega)]; exact (h9 g hg).1
  · show up S.1.1 (10 + 4 * f) j (9 + 4 * g) = _
    rw [up_n _ _ (by omega)]; exact (h9 g hg).2
theorem m_12 {R : LSt × LSt × (Nat → Int) × Int × Int × Int × Int × Int × Int × Int} {st mo me : Nat → Int} {S : YS} (h : M1 R st 4 S) : M2 R st mo me 0 S := by
  obtain ⟨h1, h2, h3, h4, h5, h6, h7, h8⟩ := h
  exact ⟨h1, h2, h3, h4, h5, h6, h7, fun j hj => (h8 j hj).trans (if_pos hj), fun g hg => absurd hg (Nat.not_lt_zero g)⟩
/-! calls that know the class's cells alone -/
theorem mg_mg {α : Type} (K : Nat → Option Kd) (f g h : Nat → α) : mg K f (mg K g h) = mg K f h := by
  funext a
  unfold mg
  split
  · rfl
  · rfl
theorem sub_m {K1 K : Nat → Option Kd} {n : Nat × Nat} (h : ∀ a kd, K1 a = some kd → K a = some kd) (Ic Is : MI) (Pc Ps : MP) (Lc Ls : ML) : SubM (K1, n) (K, n) Ic (mg K1 Ic Is) Pc (mg K1 Pc Ps) Lc (mg K1 Lc Ls) := by
  refine ⟨rfl, fun a kd ha => ?_⟩
  have h1 : (K1 a).isSome = true := by rw [show K1 a = some kd from ha]; rfl
  unfold mg
  rw [if_pos h1, if_pos h1, if_pos h1]
  exact ⟨h a kd ha, rfl, rfl, rfl⟩
/-- what stands fast in the law -/
def LC (b Ln : Nat) (K1 K : Nat → Option Kd) (sx : Nat → Int) (Is : MI) : Prop := (∀ a kd, K1 a = some kd → K a = some kd) ∧ K b = some (.inr (0, Ln)) ∧ Ln ≤ 260 ∧ ∀ (Ic : MI) (j : Nat), j < Ln → mg K1 Ic Is b j = sx j

