/-! the kinds: what each does, and calls of it by the kind's number -/
theorem sX3_makes {G : WG} {C : CF} {I : MI} {P : MP} {L : ML} {b : Nat} : SX3_makes G [.ref b] C I P L (NI C (XI (1) I P L)) := by
  refine en_I (by decide +kernel) (Nat.le_of_ble_eq_true rfl) ?_
  change Wd _ _ _ _ _ _ _ _ 0 [some _] [] _ _ _ _
  refine r_iconst (pc := 0) dX3_makes_0 ?_
  refine t_iret (pc := 1) dX3_makes_1 rfl rfl ?_
  first | exact ⟨rfl, rfl, rfl, rfl⟩ | exact ⟨by cases n <;> simp_all, rfl, rfl, rfl⟩ | exact ⟨by (first | omega | rw [if_pos (by omega)] | rw [if_neg (by omega)]), rfl, rfl, rfl⟩ | omega
theorem sX3_tends {G : WG} {C : CF} {I : MI} {P : MP} {L : ML} {b : Nat} : SX3_tends G [.ref b] C I P L (NI C (XI (1) I P L)) := by
  refine en_I (by decide +kernel) (Nat.le_of_ble_eq_true rfl) ?_
  change Wd _ _ _ _ _ _ _ _ 0 [some _] [] _ _ _ _
  refine r_iconst (pc := 0) dX3_tends_0 ?_
  refine t_iret (pc := 1) dX3_tends_1 rfl rfl ?_
  first | exact ⟨rfl, rfl, rfl, rfl⟩ | exact ⟨by cases n <;> simp_all, rfl, rfl, rfl⟩ | exact ⟨by (first | omega | rw [if_pos (by omega)] | rw [if_neg (by omega)]), rfl, rfl, rfl⟩ | omega
theorem sX3_digs {G : WG} {C : CF} {I : MI} {P : MP} {L : ML} {b : Nat} : SX3_digs G [.ref b] C I P L (NI C (XI (3) I P L)) := by
  refine en_I (by decide +kernel) (Nat.le_of_ble_eq_true rfl) ?_
  change Wd _ _ _ _ _ _ _ _ 0 [some _] [] _ _ _ _
  refine r_iconst (pc := 0) dX3_digs_0 ?_
  refine t_iret (pc := 1) dX3_digs_1 rfl rfl ?_
  first | exact ⟨rfl, rfl, rfl, rfl⟩ | exact ⟨by cases n <;> simp_all, rfl, rfl, rfl⟩ | exact ⟨by (first | omega | rw [if_pos (by omega)] | rw [if_neg (by omega)]), rfl, rfl, rfl⟩ | omega
theorem sX3_meal {G : WG} {C : CF} {I : MI} {P : MP} {L : ML} {b : Nat} {m n : Int} : SX3_meal G [.ref b, .int (zI m), .int (zI n)] C I P L (NI C (XI (m) I P L)) := by
  refine en_I (by decide +kernel) (Nat.le_of_ble_eq_true rfl) ?_
  change Wd _ _ _ _ _ _ _ _ 0 [some _, some _, some _] [] _ _ _ _
  refine r_iload_n (pc := 0) dX3_meal_0 rfl ?_
  refine t_iret (pc := 1) dX3_meal_1 rfl rfl ?_
  first | exact ⟨rfl, rfl, rfl, rfl⟩ | exact ⟨by cases n <;> simp_all, rfl, rfl, rfl⟩ | exact ⟨by (first | omega | rw [if_pos (by omega)] | rw [if_neg (by omega)]), rfl, rfl, rfl⟩ | omega
theorem sX3_forgets {G : WG} {C : CF} {I : MI} {P : MP} {L : ML} {b : Nat} : SX3_forgets G [.ref b] C I P L (NI C (XI (1) I P L)) := by
  refine en_I (by decide +kernel) (Nat.le_of_ble_eq_true rfl) ?_
  change Wd _ _ _ _ _ _ _ _ 0 [some _] [] _ _ _ _
  refine r_iconst (pc := 0) dX3_forgets_0 ?_
  refine t_iret (pc := 1) dX3_forgets_1 rfl rfl ?_
  first | exact ⟨rfl, rfl, rfl, rfl⟩ | exact ⟨by cases n <;> simp_all, rfl, rfl, rfl⟩ | exact ⟨by (first | omega | rw [if_pos (by omega)] | rw [if_neg (by omega)]), rfl, rfl, rfl⟩ | omega
theorem sX3_rests {G : WG} {C : CF} {I : MI} {P : MP} {L : ML} {b : Nat} {y : Int} : SX3_rests G [.ref b, .int (zI y)] C I P L (NI C (XI (0) I P L)) := by
  refine en_I (by decide +kernel) (Nat.le_of_ble_eq_true rfl) ?_
  change Wd _ _ _ _ _ _ _ _ 0 [some _, some _] [] _ _ _ _
  refine r_iconst (pc := 0) dX3_rests_0 ?_
  refine t_iret (pc := 1) dX3_rests_1 rfl rfl ?_
  first | exact ⟨rfl, rfl, rfl, rfl⟩ | exact ⟨by cases n <;> simp_all, rfl, rfl, rfl⟩ | exact ⟨by (first | omega | rw [if_pos (by omega)] | rw [if_neg (by omega)]), rfl, rfl, rfl⟩ | omega
theorem sX4_tends {G : WG} {C : CF} {I : MI} {P : MP} {L : ML} {b : Nat} {c : Nat} {CC : String} (hK : C.1 b = some (.inl c) := by assumption) (hc : (vwCl[c]?).map (·.1) = some CC := by rfl) : SX4_tends G [.ref b] C I P L (NI C (XI (4) I P L)) := by
  refine en_I (by decide +kernel) (Nat.le_of_ble_eq_true rfl) ?_
  change Wd _ _ _ _ _ _ _ _ 0 [some _] [] _ _ _ _
  refine r_aload_n (pc := 0) dX4_tends_0 rfl ?_
  refine i_SU0ix (pc := 1) okX3_tends (by decide) inX3_tends q438 q434 q69 dX4_tends_1 (by assumption) hc (by decide) (Nat.le_of_ble_eq_true rfl) (sX3_tends) ?_
  refine r_iconst (pc := 4) dX4_tends_4 ?_
  refine r_iadd (pc := 5) dX4_tends_5 ?_
  refine t_iret (pc := 6) dX4_tends_6 rfl rfl ?_
  first | exact ⟨rfl, rfl, rfl, rfl⟩ | exact ⟨by cases n <;> simp_all, rfl, rfl, rfl⟩ | exact ⟨by (first | omega | rw [if_pos (by omega)] | rw [if_neg (by omega)]), rfl, rfl, rfl⟩ | omega
theorem sX6_makes {G : WG} {C : CF} {I : MI} {P : MP} {L : ML} {b : Nat} {c : Nat} {CC : String} (hK : C.1 b = some (.inl c) := by assumption) (hc : (vwCl[c]?).map (·.1) = some CC := by rfl) : SX6_makes G [.ref b] C I P L (NI C (XI (3) I P L)) := by
  refine en_I (by decide +kernel) (Nat.le_of_ble_eq_true rfl) ?_
  change Wd _ _ _ _ _ _ _ _ 0 [some _] [] _ _ _ _
  refine r_aload_n (pc := 0) dX6_makes_0 rfl ?_
  refine i_SU0ix (pc := 1) okX3_makes (by decide) inX3_makes q427 q422 q76 dX6_makes_1 (by assumption) hc (by decide) (Nat.le_of_ble_eq_true rfl) (sX3_makes) ?_
  refine r_iconst (pc := 4) dX6_makes_4 ?_
  refine r_iadd (pc := 5) dX6_makes_5 ?_
  refine t_iret (pc := 6) dX6_makes_6 rfl rfl ?_
  first | exact ⟨rfl, rfl, rfl, rfl⟩ | exact ⟨by cases n <;> simp_all, rfl, rfl, rfl⟩ | exact ⟨by (first | omega | rw [if_pos (by omega)] | rw [if_neg (by omega)]), rfl, rfl, rfl⟩ | omega
theorem sX6_meal {G : WG} {C : CF} {I : MI} {P : MP} {L : ML} {b : Nat} {m n : Int} {c : Nat} {CC : String} (hK : C.1 b = some (.inl c) := by assumption) (hc : (vwCl[c]?).map (·.1) = some CC := by rfl) : SX6_meal G [.ref b, .int (zI m), .int (zI n)] C I P L (NI C (XI (m + 1) I P L)) := by
  refine en_I (by decide +kernel) (Nat.le_of_ble_eq_true rfl) ?_
  change Wd _ _ _ _ _ _ _ _ 0 [some _, some _, some _] [] _ _ _ _
  refine r_aload_n (pc := 0) dX6_meal_0 rfl ?_
  refine r_iload_n (pc := 1) dX6_meal_1 rfl ?_
  refine r_iload_n (pc := 2) dX6_meal_2 rfl ?_
  refine i_SU2ix (pc := 3) okX3_meal (by decide) inX3_meal q471 q466 q76 dX6_meal_3 (by assumption) hc (by decide) (Nat.le_of_ble_eq_true rfl) (sX3_meal) ?_
  refine r_iconst (pc := 6) dX6_meal_6 ?_
  refine r_iadd (pc := 7) dX6_meal_7 ?_
  refine t_iret (pc := 8) dX6_meal_8 rfl rfl ?_
  first | exact ⟨rfl, rfl, rfl, rfl⟩ | exact ⟨by cases n <;> simp_all, rfl, rfl, rfl⟩ | exact ⟨by (first | omega | rw [if_pos (by omega)] | rw [if_neg (by omega)]), rfl, rfl, rfl⟩ | omega
theorem sX8_tends {G : WG} {C : CF} {I : MI} {P : MP} {L : ML} {b : Nat} {c : Nat} {CC : String} (hK : C.1 b = some (.inl c) := by assumption) (hc : (vwCl[c]?).map (·.1) = some CC := by rfl) : SX8_tends G [.ref b] C I P L (NI C (XI (2) I P L)) := by
  refine en_I (by decide +kernel) (Nat.le_of_ble_eq_true rfl) ?_
  change Wd _ _ _ _ _ _ _ _ 0 [some _] [] _ _ _ _
  refine r_aload_n (pc := 0) dX8_tends_0 rfl ?_
  refine i_SU0ix (pc := 1) okX4_tends (by decide) inX4_tends q443 q749 q83 dX8_tends_1 (by assumption) hc (by decide) (Nat.le_of_ble_eq_true rfl) (sX4_tends hK hc) ?_
  refine r_iconst (pc := 4) dX8_tends_4 ?_
  refine r_idiv (pc := 5) dX8_tends_5 (by omega) (by omega) (by omega) (by omega) ?_
  refine t_iret (pc := 6) dX8_tends_6 rfl rfl ?_
  first | exact ⟨rfl, rfl, rfl, rfl⟩ | exact ⟨by cases n <;> simp_all, rfl, rfl, rfl⟩ | exact ⟨by (first | omega | rw [if_pos (by omega)] | rw [if_neg (by omega)]), rfl, rfl, rfl⟩ | omega
theorem sX8_forgets {G : WG} {C : CF} {I : MI} {P : MP} {L : ML} {b : Nat} : SX8_forgets G [.ref b] C I P L (NI C (XI (0) I P L)) := by
  refine en_I (by decide +kernel) (Nat.le_of_ble_eq_true rfl) ?_
  change Wd _ _ _ _ _ _ _ _ 0 [some _] [] _ _ _ _
  refine r_iconst (pc := 0) dX8_forgets_0 ?_
  refine t_iret (pc := 1) dX8_forgets_1 rfl rfl ?_
  first | exact ⟨rfl, rfl, rfl, rfl⟩ | exact ⟨by cases n <;> simp_all, rfl, rfl, rfl⟩ | exact ⟨by (first | omega | rw [if_pos (by omega)] | rw [if_neg (by omega)]), rfl, rfl, rfl⟩ | omega
theorem sX9_meal {G : WG} {C : CF} {I : MI} {P : MP} {L : ML} {b : Nat} {m : Int} {n : Bool} {c : Nat} {CC : String} (hK : C.1 b = some (.inl c) := by assumption) (hc : (vwCl[c]?).map (·.1) = some CC := by rfl) (hm : 0 ≤ m ∧ m ≤ 100 := by omega) : SX9_meal G [.ref b, .int (zI m), .int (zI (if n then 1 else 0))] C I P L (NI C (XI (if n = false then (m + 1) / 2 else m) I P L)) := by
  refine en_I (by decide +kernel) (Nat.le_of_ble_eq_true rfl) ?_
  change Wd _ _ _ _ _ _ _ _ 0 [some _, some _, some _, none] [] _ _ _ _
  refine r_aload_n (pc := 0) dX9_meal_0 rfl ?_
  refine r_iload_n (pc := 1) dX9_meal_1 rfl ?_
  refine r_iload_n (pc := 2) dX9_meal_2 rfl ?_
  refine i_SU2ix (pc := 3) okX3_meal (by decide) inX3_meal q476 q466 q62 dX9_meal_3 (by assumption) hc (by decide) (Nat.le_of_ble_eq_true rfl) (sX3_meal) ?_
  refine r_istore_n (pc := 6) dX9_meal_6 (by decide) ?_
  refine r_iload_n (pc := 7) dX9_meal_7 rfl ?_
  refine r_if_eq (pc := 8) 15 dX9_meal_8 (by decide) (by (cases n <;> simp_all <;> omega)) (fun h8 => ?_) (fun h8 => ?_)
  · skip
    refine r_iload_n (pc := 15) dX9_meal_15 rfl ?_
    refine r_iconst (pc := 16) dX9_meal_16 ?_
    refine r_iadd (pc := 17) dX9_meal_17 ?_
    refine r_iconst (pc := 18) dX9_meal_18 ?_
    refine r_idiv (pc := 19) dX9_meal_19 (by (cases n <;> simp_all <;> omega)) (by (cases n <;> simp_all <;> omega)) (by (cases n <;> simp_all <;> omega)) (by (cases n <;> simp_all <;> omega)) ?_
    refine t_iret (pc := 20) dX9_meal_20 rfl rfl ?_
    first | exact ⟨rfl, rfl, rfl, rfl⟩ | exact ⟨by cases n <;> simp_all, rfl, rfl, rfl⟩ | exact ⟨by (first | omega | rw [if_pos (by omega)] | rw [if_neg (by omega)]), rfl, rfl, rfl⟩ | omega
  · skip
    refine r_iload_n (pc := 11) dX9_meal_11 rfl ?_
    refine r_goto (pc := 12) 20 dX9_meal_12 (by decide) ?_
    refine t_iret (pc := 20) dX9_meal_20 rfl rfl ?_
    first | exact ⟨rfl, rfl, rfl, rfl⟩ | exact ⟨by cases n <;> simp_all, rfl, rfl, rfl⟩ | exact ⟨by (first | omega | rw [if_pos (by omega)] | rw [if_neg (by omega)]), rfl, rfl, rfl⟩ | omega
theorem sX9_rests {G : WG} {C : CF} {I : MI} {P : MP} {L : ML} {b : Nat} {y : Int} (hy : 0 ≤ y ∧ y ≤ 1000000 := by omega) : SX9_rests G [.ref b, .int (zI y)] C I P L (NI C (XI (if y % 2 = 1 then 1 else 0) I P L)) := by
  refine en_I (by decide +kernel) (Nat.le_of_ble_eq_true rfl) ?_
  change Wd _ _ _ _ _ _ _ _ 0 [some _, some _] [] _ _ _ _
  refine r_iload_n (pc := 0) dX9_rests_0 rfl ?_
  refine r_iconst (pc := 1) dX9_rests_1 ?_
  refine r_irem (pc := 2) dX9_rests_2 (by omega) (by omega) (by omega) (by omega) ?_
  refine r_if_eq (pc := 3) 10 dX9_rests_3 (by decide) (by omega) (fun h3 => ?_) (fun h3 => ?_)
  · skip
    refine r_iconst (pc := 10) dX9_rests_10 ?_
    refine t_iret (pc := 11) dX9_rests_11 rfl rfl ?_
    first | exact ⟨rfl, rfl, rfl, rfl⟩ | exact ⟨by cases n <;> simp_all, rfl, rfl, rfl⟩ | exact ⟨by (first | omega | rw [if_pos (by omega)] | rw [if_neg (by omega)]), rfl, rfl, rfl⟩ | omega
  · skip
    refine r_iconst (pc := 6) dX9_rests_6 ?_
    refine r_goto (pc := 7) 11 dX9_rests_7 (by decide) ?_
    refine t_iret (pc := 11) dX9_rests_11 rfl rfl ?_
    first | exact ⟨rfl, rfl, rfl, rfl⟩ | exact ⟨by cases n <;> simp_all, rfl, rfl, rfl⟩ | exact ⟨by (first | omega | rw [if_pos (by omega)] | rw [if_neg (by omega)]), rfl, rfl, rfl⟩ | omega
theorem v_makes {G : WG} {C : CF} {I : MI} {P : MP} {L : ML} {y : MethodName} {cc : ByteArray} {mL : Nat} {rt : Option FieldType} {rk : Nat} {Z : Nat × Nat} {Q : Post} {pc idx : Nat} {ls : List (Option Value)} {st : List Value} {w : Nat} {k : Int}  (hk : 0 ≤ k ∧ k ≤ 4) (hK : C.1 w = some (.inl (kcls k.toNat))) (hl : Cond.methodLink y.cls idx yX3_makes ∈ LW) (hd : decode cc pc = .ok (.invokevirtual idx, 3)) (hrk : 1 < rk) (hw : (st.map fun v => v.category).sum ≤ 8)  (kk : Wd G y cc mL rt rk Z Q (pc + 3) ls (.int (zI (makesK k)) :: st) C I P L) : Wd G y cc mL rt rk Z Q pc ls (.ref w :: st) C I P L := by
  rcases (show k = 0 ∨ k = 1 ∨ k = 2 ∨ k = 3 ∨ k = 4 by omega) with rfl | rfl | rfl | rfl | rfl
  · replace hK : C.1 w = some (.inl 3) := hK
    refine i_U0ix (x := yX3_makes) (CC := RX3) okX3_makes rfl ⟨by decide, by decide⟩ inX3_makes hl q422 inX3_makes okX3_makes.1 q421 hd hK rfl (Nat.lt_of_le_of_lt (by decide) hrk) hw sX3_makes ?_
    first | exact kk | simpa using kk | simpa [mealK] using kk
  · replace hK : C.1 w = some (.inl 9) := hK
    refine i_U0ix (x := yX3_makes) (CC := RX9) okX3_makes rfl ⟨by decide, by decide⟩ inX3_makes hl q422 inX3_makes okX3_makes.1 q429 hd hK rfl (Nat.lt_of_le_of_lt (by decide) hrk) hw sX3_makes ?_
    first | exact kk | simpa using kk | simpa [mealK] using kk
  · replace hK : C.1 w = some (.inl 4) := hK
    refine i_U0ix (x := yX3_makes) (CC := RX4) okX3_makes rfl ⟨by decide, by decide⟩ inX3_makes hl q422 inX3_makes okX3_makes.1 q423 hd hK rfl (Nat.lt_of_le_of_lt (by decide) hrk) hw sX3_makes ?_
    first | exact kk | simpa using kk | simpa [mealK] using kk
  · replace hK : C.1 w = some (.inl 6) := hK
    refine i_U0ix (x := yX3_makes) (CC := RX6) okX6_makes rfl ⟨by decide, by decide⟩ inX6_makes hl q422 inX3_makes okX3_makes.1 q424 hd hK rfl (Nat.lt_of_le_of_lt (by decide) hrk) hw sX6_makes ?_
    first | exact kk | simpa using kk | simpa [mealK] using kk
  · replace hK : C.1 w = some (.inl 8) := hK
    refine i_U0ix (x := yX3_makes) (CC := RX8) okX3_makes rfl ⟨by decide, by decide⟩ inX3_makes hl q422 inX3_makes okX3_makes.1 q428 hd hK rfl (Nat.lt_of_le_of_lt (by decide) hrk) hw sX3_makes ?_
    first | exact kk | simpa using kk | simpa [mealK] using kk
theorem v_tends {G : WG} {C : CF} {I : MI} {P : MP} {L : ML} {y : MethodName} {cc : ByteArray} {mL : Nat} {rt : Option FieldType} {rk : Nat} {Z : Nat × Nat} {Q : Post} {pc idx : Nat} {ls : List (Option Value)} {st : List Value} {w : Nat} {k : Int}  (hk : 0 ≤ k ∧ k ≤ 4) (hK : C.1 w = some (.inl (kcls k.toNat))) (hl : Cond.methodLink y.cls idx yX3_tends ∈ LW) (hd : decode cc pc = .ok (.invokevirtual idx, 3)) (hrk : 2 < rk) (hw : (st.map fun v => v.category).sum ≤ 8)  (kk : Wd G y cc mL rt rk Z Q (pc + 3) ls (.int (zI (tendsK k)) :: st) C I P L) : Wd G y cc mL rt rk Z Q pc ls (.ref w :: st) C I P L := by
  rcases (show k = 0 ∨ k = 1 ∨ k = 2 ∨ k = 3 ∨ k = 4 by omega) with rfl | rfl | rfl | rfl | rfl
  · replace hK : C.1 w = some (.inl 3) := hK
    refine i_U0ix (x := yX3_tends) (CC := RX3) okX3_tends rfl ⟨by decide, by decide⟩ inX3_tends hl q434 inX3_tends okX3_tends.1 q433 hd hK rfl (Nat.lt_of_le_of_lt (by decide) hrk) hw sX3_tends ?_
    first | exact kk | simpa using kk | simpa [mealK] using kk
  · replace hK : C.1 w = some (.inl 9) := hK
    refine i_U0ix (x := yX3_tends) (CC := RX9) okX3_tends rfl ⟨by decide, by decide⟩ inX3_tends hl q434 inX3_tends okX3_tends.1 q444 hd hK rfl (Nat.lt_of_le_of_lt (by decide) hrk) hw sX3_tends ?_
    first | exact kk | simpa using kk | simpa [mealK] using kk
  · replace hK : C.1 w = some (.inl 4) := hK
    refine i_U0ix (x := yX3_tends) (CC := RX4) okX4_tends rfl ⟨by decide, by decide⟩ inX4_tends hl q434 inX3_tends okX3_tends.1 q435 hd hK rfl (Nat.lt_of_le_of_lt (by decide) hrk) hw sX4_tends ?_
    first | exact kk | simpa using kk | simpa [mealK] using kk
  · replace hK : C.1 w = some (.inl 6) := hK
    refine i_U0ix (x := yX3_tends) (CC := RX6) okX3_tends rfl ⟨by decide, by decide⟩ inX3_tends hl q434 inX3_tends okX3_tends.1 q439 hd hK rfl (Nat.lt_of_le_of_lt (by decide) hrk) hw sX3_tends ?_
    first | exact kk | simpa using kk | simpa [mealK] using kk
  · replace hK : C.1 w = some (.inl 8) := hK
    refine i_U0ix (x := yX3_tends) (CC := RX8) okX8_tends rfl ⟨by decide, by decide⟩ inX8_tends hl q434 inX3_tends okX3_tends.1 q440 hd hK rfl (Nat.lt_of_le_of_lt (by decide) hrk) hw sX8_tends ?_
    first | exact kk | simpa using kk | simpa [mealK] using kk
theorem v_digs {G : WG} {C : CF} {I : MI} {P : MP} {L : ML} {y : MethodName} {cc : ByteArray} {mL : Nat} {rt : Option FieldType} {rk : Nat} {Z : Nat × Nat} {Q : Post} {pc idx : Nat} {ls : List (Option Value)} {st : List Value} {w : Nat} {k : Int}  (hk : 0 ≤ k ∧ k ≤ 4) (hK : C.1 w = some (.inl (kcls k.toNat))) (hl : Cond.methodLink y.cls idx yX3_digs ∈ LW) (hd : decode cc pc = .ok (.invokevirtual idx, 3)) (hrk : 0 < rk) (hw : (st.map fun v => v.category).sum ≤ 8)  (kk : Wd G y cc mL rt rk Z Q (pc + 3) ls (.int (zI (3)) :: st) C I P L) : Wd G y cc mL rt rk Z Q pc ls (.ref w :: st) C I P L := by
  rcases (show k = 0 ∨ k = 1 ∨ k = 2 ∨ k = 3 ∨ k = 4 by omega) with rfl | rfl | rfl | rfl | rfl
  · replace hK : C.1 w = some (.inl 3) := hK
    refine i_U0ix (x := yX3_digs) (CC := RX3) okX3_digs rfl ⟨by decide, by decide⟩ inX3_digs hl q449 inX3_digs okX3_digs.1 q448 hd hK rfl (Nat.lt_of_le_of_lt (by decide) hrk) hw sX3_digs ?_
    first | exact kk | simpa using kk | simpa [mealK] using kk
  · replace hK : C.1 w = some (.inl 9) := hK
    refine i_U0ix (x := yX3_digs) (CC := RX9) okX3_digs rfl ⟨by decide, by decide⟩ inX3_digs hl q449 inX3_digs okX3_digs.1 q453 hd hK rfl (Nat.lt_of_le_of_lt (by decide) hrk) hw sX3_digs ?_
    first | exact kk | simpa using kk | simpa [mealK] using kk
  · replace hK : C.1 w = some (.inl 4) := hK
    refine i_U0ix (x := yX3_digs) (CC := RX4) okX3_digs rfl ⟨by decide, by decide⟩ inX3_digs hl q449 inX3_digs okX3_digs.1 q450 hd hK rfl (Nat.lt_of_le_of_lt (by decide) hrk) hw sX3_digs ?_
    first | exact kk | simpa using kk | simpa [mealK] using kk
  · replace hK : C.1 w = some (.inl 6) := hK
    refine i_U0ix (x := yX3_digs) (CC := RX6) okX3_digs rfl ⟨by decide, by decide⟩ inX3_digs hl q449 inX3_digs okX3_digs.1 q451 hd hK rfl (Nat.lt_of_le_of_lt (by decide) hrk) hw sX3_digs ?_
    first | exact kk | simpa using kk | simpa [mealK] using kk
  · replace hK : C.1 w = some (.inl 8) := hK
    refine i_U0ix (x := yX3_digs) (CC := RX8) okX3_digs rfl ⟨by decide, by decide⟩ inX3_digs hl q449 inX3_digs okX3_digs.1 q452 hd hK rfl (Nat.lt_of_le_of_lt (by decide) hrk) hw sX3_digs ?_
    first | exact kk | simpa using kk | simpa [mealK] using kk
theorem v_forgets {G : WG} {C : CF} {I : MI} {P : MP} {L : ML} {y : MethodName} {cc : ByteArray} {mL : Nat} {rt : Option FieldType} {rk : Nat} {Z : Nat × Nat} {Q : Post} {pc idx : Nat} {ls : List (Option Value)} {st : List Value} {w : Nat} {k : Int}  (hk : 0 ≤ k ∧ k ≤ 4) (hK : C.1 w = some (.inl (kcls k.toNat))) (hl : Cond.methodLink y.cls idx yX3_forgets ∈ LW) (hd : decode cc pc = .ok (.invokevirtual idx, 3)) (hrk : 0 < rk) (hw : (st.map fun v => v.category).sum ≤ 8)  (kk : Wd G y cc mL rt rk Z Q (pc + 3) ls (.int (zI (forgK k)) :: st) C I P L) : Wd G y cc mL rt rk Z Q pc ls (.ref w :: st) C I P L := by
  rcases (show k = 0 ∨ k = 1 ∨ k = 2 ∨ k = 3 ∨ k = 4 by omega) with rfl | rfl | rfl | rfl | rfl
  · replace hK : C.1 w = some (.inl 3) := hK
    refine i_U0ix (x := yX3_forgets) (CC := RX3) okX3_forgets rfl ⟨by decide, by decide⟩ inX3_forgets hl q497 inX3_forgets okX3_forgets.1 q496 hd hK rfl (Nat.lt_of_le_of_lt (by decide) hrk) hw sX3_forgets ?_
    first | exact kk | simpa using kk | simpa [mealK] using kk
  · replace hK : C.1 w = some (.inl 9) := hK
    refine i_U0ix (x := yX3_forgets) (CC := RX9) okX3_forgets rfl ⟨by decide, by decide⟩ inX3_forgets hl q497 inX3_forgets okX3_forgets.1 q503 hd hK rfl (Nat.lt_of_le_of_lt (by decide) hrk) hw sX3_forgets ?_
    first | exact kk | simpa using kk | simpa [mealK] using kk
  · replace hK : C.1 w = some (.inl 4) := hK
    refine i_U0ix (x := yX3_forgets) (CC := RX4) okX3_forgets rfl ⟨by decide, by decide⟩ inX3_forgets hl q497 inX3_forgets okX3_forgets.1 q498 hd hK rfl (Nat.lt_of_le_of_lt (by decide) hrk) hw sX3_forgets ?_
    first | exact kk | simpa using kk | simpa [mealK] using kk
  · replace hK : C.1 w = some (.inl 6) := hK
    refine i_U0ix (x := yX3_forgets) (CC := RX6) okX3_forgets rfl ⟨by decide, by decide⟩ inX3_forgets hl q497 inX3_forgets okX3_forgets.1 q499 hd hK rfl (Nat.lt_of_le_of_lt (by decide) hrk) hw sX3_forgets ?_
    first | exact kk | simpa using kk | simpa [mealK] using kk
  · replace hK : C.1 w = some (.inl 8) := hK
    refine i_U0ix (x := yX3_forgets) (CC := RX8) okX8_forgets rfl ⟨by decide, by decide⟩ inX8_forgets hl q497 inX3_forgets okX3_forgets.1 q500 hd hK rfl (Nat.lt_of_le_of_lt (by decide) hrk) hw sX8_forgets ?_
    first | exact kk | simpa using kk | simpa [mealK] using kk
theorem v_rests {G : WG} {C : CF} {I : MI} {P : MP} {L : ML} {y : MethodName} {cc : ByteArray} {mL : Nat} {rt : Option FieldType} {rk : Nat} {Z : Nat × Nat} {Q : Post} {pc idx : Nat} {ls : List (Option Value)} {st : List Value} {w : Nat} {k : Int} {yr : Int} (hk : 0 ≤ k ∧ k ≤ 4) (hK : C.1 w = some (.inl (kcls k.toNat))) (hl : Cond.methodLink y.cls idx yX3_rests ∈ LW) (hd : decode cc pc = .ok (.invokevirtual idx, 3)) (hrk : 0 < rk) (hw : (st.map fun v => v.category).sum ≤ 8) (hy : 0 ≤ yr ∧ yr ≤ 1000000) (kk : Wd G y cc mL rt rk Z Q (pc + 3) ls (.int (zI (if k = 1 ∧ yr % 2 = 1 then 1 else 0)) :: st) C I P L) : Wd G y cc mL rt rk Z Q pc ls (.int (zI yr) :: .ref w :: st) C I P L := by
  rcases (show k = 0 ∨ k = 1 ∨ k = 2 ∨ k = 3 ∨ k = 4 by omega) with rfl | rfl | rfl | rfl | rfl
  · replace hK : C.1 w = some (.inl 3) := hK
    refine i_U1ix (x := yX3_rests) (CC := RX3) okX3_rests rfl ⟨by decide, by decide⟩ inX3_rests hl q406 inX3_rests okX3_rests.1 q405 hd hK rfl (Nat.lt_of_le_of_lt (by decide) hrk) hw sX3_rests ?_
    first | exact kk | simpa using kk | simpa [mealK] using kk
  · replace hK : C.1 w = some (.inl 9) := hK
    refine i_U1ix (x := yX3_rests) (CC := RX9) okX9_rests rfl ⟨by decide, by decide⟩ inX9_rests hl q406 inX3_rests okX3_rests.1 q410 hd hK rfl (Nat.lt_of_le_of_lt (by decide) hrk) hw sX9_rests ?_
    first | exact kk | simpa using kk | simpa [mealK] using kk
  · replace hK : C.1 w = some (.inl 4) := hK
    refine i_U1ix (x := yX3_rests) (CC := RX4) okX3_rests rfl ⟨by decide, by decide⟩ inX3_rests hl q406 inX3_rests okX3_rests.1 q407 hd hK rfl (Nat.lt_of_le_of_lt (by decide) hrk) hw sX3_rests ?_
    first | exact kk | simpa using kk | simpa [mealK] using kk
  · replace hK : C.1 w = some (.inl 6) := hK
    refine i_U1ix (x := yX3_rests) (CC := RX6) okX3_rests rfl ⟨by decide, by decide⟩ inX3_rests hl q406 inX3_rests okX3_rests.1 q408 hd hK rfl (Nat.lt_of_le_of_lt (by decide) hrk) hw sX3_rests ?_
    first | exact kk | simpa using kk | simpa [mealK] using kk
  · replace hK : C.1 w = some (.inl 8) := hK
    refine i_U1ix (x := yX3_rests) (CC := RX8) okX3_rests rfl ⟨by decide, by decide⟩ inX3_rests hl q406 inX3_rests okX3_rests.1 q409 hd hK rfl (Nat.lt_of_le_of_lt (by decide) hrk) hw sX3_rests ?_
    first | exact kk | simpa using kk | simpa [mealK] using kk
theorem v_meal {G : WG} {C : CF} {I : MI} {P : MP} {L : ML} {y : MethodName} {cc : ByteArray} {mL : Nat} {rt : Option FieldType} {rk : Nat} {Z : Nat × Nat} {Q : Post} {pc idx : Nat} {ls : List (Option Value)} {st : List Value} {w : Nat} {k : Int} {m : Int} {n : Bool} (hk : 0 ≤ k ∧ k ≤ 4) (hK : C.1 w = some (.inl (kcls k.toNat))) (hl : Cond.methodLink y.cls idx yX3_meal ∈ LW) (hd : decode cc pc = .ok (.invokevirtual idx, 3)) (hrk : 1 < rk) (hw : (st.map fun v => v.category).sum ≤ 8) (hm : 0 ≤ m ∧ m ≤ 100) (kk : Wd G y cc mL rt rk Z Q (pc + 3) ls (.int (zI (mealK k m n)) :: st) C I P L) : Wd G y cc mL rt rk Z Q pc ls (.int (zI (if n then 1 else 0)) :: .int (zI m) :: .ref w :: st) C I P L := by
  rcases (show k = 0 ∨ k = 1 ∨ k = 2 ∨ k = 3 ∨ k = 4 by omega) with rfl | rfl | rfl | rfl | rfl
  · replace hK : C.1 w = some (.inl 3) := hK
    refine i_U2ix (x := yX3_meal) (CC := RX3) okX3_meal rfl ⟨by decide, by decide⟩ inX3_meal hl q466 inX3_meal okX3_meal.1 q465 hd hK rfl (Nat.lt_of_le_of_lt (by decide) hrk) hw sX3_meal ?_
    first | exact kk | simpa using kk | simpa [mealK] using kk
  · replace hK : C.1 w = some (.inl 9) := hK
    refine i_U2ix (x := yX3_meal) (CC := RX9) okX9_meal rfl ⟨by decide, by decide⟩ inX9_meal hl q466 inX3_meal okX3_meal.1 q473 hd hK rfl (Nat.lt_of_le_of_lt (by decide) hrk) hw sX9_meal ?_
    first | exact kk | simpa using kk | simpa [mealK] using kk
  · replace hK : C.1 w = some (.inl 4) := hK
    refine i_U2ix (x := yX3_meal) (CC := RX4) okX3_meal rfl ⟨by decide, by decide⟩ inX3_meal hl q466 inX3_meal okX3_meal.1 q467 hd hK rfl (Nat.lt_of_le_of_lt (by decide) hrk) hw sX3_meal ?_
    first | exact kk | simpa using kk | simpa [mealK] using kk
  · replace hK : C.1 w = some (.inl 6) := hK
    refine i_U2ix (x := yX3_meal) (CC := RX6) okX6_meal rfl ⟨by decide, by decide⟩ inX6_meal hl q466 inX3_meal okX3_meal.1 q468 hd hK rfl (Nat.lt_of_le_of_lt (by decide) hrk) hw sX6_meal ?_
    first | exact kk | simpa using kk | simpa [mealK] using kk
  · replace hK : C.1 w = some (.inl 8) := hK
    refine i_U2ix (x := yX3_meal) (CC := RX8) okX3_meal rfl ⟨by decide, by decide⟩ inX3_meal hl q466 inX3_meal okX3_meal.1 q472 hd hK rfl (Nat.lt_of_le_of_lt (by decide) hrk) hw sX3_meal ?_
    first | exact kk | simpa using kk | simpa [mealK] using kk


