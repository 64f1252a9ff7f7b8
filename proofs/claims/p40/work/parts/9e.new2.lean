/-! the small constructors -/
section INITS
variable {G : WG} {C : CF} {I : MI} {P : MP} {L : ML}
abbrev SX3_init (G : WG) (a : Nat) (C : CF) (I : MI) (P : MP) (L : ML) : Prop := Sp G yX3_init cX3_init 1 none 1 0 0 [.ref a] C I P L (NV C (XV I P L))
theorem sX3_init {a : Nat} : SX3_init G a C I P L := by
  refine en_V (by decide +kernel) (Nat.le_of_ble_eq_true rfl) ?_
  change Wd _ _ _ _ _ _ _ _ 0 [some _] [] _ _ _ _
  refine r_aload_n (pc := 0) dX3_init_0 rfl ?_
  refine r_obj (pc := 1) q54 dX3_init_1 (by decide) (Nat.le_of_ble_eq_true rfl) ?_
  refine t_vret (pc := 4) dX3_init_4 rfl ?_
  exact ⟨rfl, rfl, rfl⟩
theorem sX4_init {a : Nat} : Sp G yX4_init cX4_init 1 none 2 0 0 [.ref a] C I P L (NV C (XV I P L)) := by
  refine en_V (by decide +kernel) (Nat.le_of_ble_eq_true rfl) ?_
  change Wd _ _ _ _ _ _ _ _ 0 [some _] [] _ _ _ _
  refine r_aload_n (pc := 0) dX4_init_0 rfl ?_
  refine i_IN0x (pc := 1) okX3_init rfl inX3_init nwX4_1 dX4_init_1 (by decide) (Nat.le_of_ble_eq_true rfl) (by first | omega | (dsimp only; omega)) (by first | omega | (dsimp only; omega)) (sX3_init) ?_
  refine t_vret (pc := 4) dX4_init_4 rfl ?_
  exact ⟨rfl, rfl, rfl⟩
theorem sX6_init {a : Nat} : Sp G yX6_init cX6_init 1 none 2 0 0 [.ref a] C I P L (NV C (XV I P L)) := by
  refine en_V (by decide +kernel) (Nat.le_of_ble_eq_true rfl) ?_
  change Wd _ _ _ _ _ _ _ _ 0 [some _] [] _ _ _ _
  refine r_aload_n (pc := 0) dX6_init_0 rfl ?_
  refine i_IN0x (pc := 1) okX3_init rfl inX3_init nwX6_1 dX6_init_1 (by decide) (Nat.le_of_ble_eq_true rfl) (by first | omega | (dsimp only; omega)) (by first | omega | (dsimp only; omega)) (sX3_init) ?_
  refine t_vret (pc := 4) dX6_init_4 rfl ?_
  exact ⟨rfl, rfl, rfl⟩
theorem sX9_init {a : Nat} : Sp G yX9_init cX9_init 1 none 2 0 0 [.ref a] C I P L (NV C (XV I P L)) := by
  refine en_V (by decide +kernel) (Nat.le_of_ble_eq_true rfl) ?_
  change Wd _ _ _ _ _ _ _ _ 0 [some _] [] _ _ _ _
  refine r_aload_n (pc := 0) dX9_init_0 rfl ?_
  refine i_IN0x (pc := 1) okX3_init rfl inX3_init nwX9_1 dX9_init_1 (by decide) (Nat.le_of_ble_eq_true rfl) (by first | omega | (dsimp only; omega)) (by first | omega | (dsimp only; omega)) (sX3_init) ?_
  refine t_vret (pc := 4) dX9_init_4 rfl ?_
  exact ⟨rfl, rfl, rfl⟩
theorem sX8_init {a : Nat} : Sp G yX8_init cX8_init 1 none 3 0 0 [.ref a] C I P L (NV C (XV I P L)) := by
  refine en_V (by decide +kernel) (Nat.le_of_ble_eq_true rfl) ?_
  change Wd _ _ _ _ _ _ _ _ 0 [some _] [] _ _ _ _
  refine r_aload_n (pc := 0) dX8_init_0 rfl ?_
  refine i_IN0x (pc := 1) okX4_init rfl inX4_init nwX8_1 dX8_init_1 (by decide) (Nat.le_of_ble_eq_true rfl) (by first | omega | (dsimp only; omega)) (by first | omega | (dsimp only; omega)) (sX4_init) ?_
  refine t_vret (pc := 4) dX8_init_4 rfl ?_
  exact ⟨rfl, rfl, rfl⟩
theorem sX1_init {a w : Nat} (hK : C.1 a = some (.inl 1)) (hB : gB G ≤ a) : Sp G yX1_init cX1_init 2 none 1 0 0 [.ref a, .ref w] C I P L (NV C (XV I (u2 P a 0 (some w)) L)) := by
  refine en_V (by decide +kernel) (Nat.le_of_ble_eq_true rfl) ?_
  change Wd _ _ _ _ _ _ _ _ 0 [some _, some _] [] _ _ _ _
  refine r_aload_n (pc := 0) dX1_init_0 rfl ?_
  refine r_obj (pc := 1) q148 dX1_init_1 (by decide) (Nat.le_of_ble_eq_true rfl) ?_
  refine r_aload_n (pc := 4) dX1_init_4 rfl ?_
  refine r_aload_n (pc := 5) dX1_init_5 rfl ?_
  refine r_putP (pc := 6) dX1_init_6 fwX1_7 (by assumption) (by omega) ?_
  refine t_vret (pc := 9) dX1_init_9 rfl ?_
  exact ⟨rfl, rfl, rfl⟩
theorem sX0_init {a : Nat} (hK : C.1 a = some (.inl 0)) (hB : gB G ≤ a) (hC : C.2.1 = a + 1) : Sp G yX0_init cX0_init 1 none 1 7 78 [.ref a] C I P L (NC a 7 78 C I P L (fun C1 I1 P1 L1 => BooksL G C1 P1 a ∧ I1 a = I a ∧ ∀ x, a < x → x < a + 8 → I1 x = fun _ => 0)) := by
  obtain ⟨K, n, s⟩ := C
  replace hC : n = a + 1 := hC
  replace hK : K a = some (.inl 0) := hK
  subst hC
  refine en_C (by decide +kernel) (Nat.le_of_ble_eq_true rfl) ?_
  change Wd _ _ _ _ _ _ _ _ 0 [some _] [] _ _ _ _
  refine r_aload_n (pc := 0) dX0_init_0 rfl ?_
  refine r_obj (pc := 1) q95 dX0_init_1 (by decide) (Nat.le_of_ble_eq_true rfl) ?_
  refine r_aload_n (pc := 4) dX0_init_4 rfl ?_
  refine r_bipush (pc := 5) dX0_init_5 (by decide) ?_
  refine r_newI (N := 8) (pc := 7) dX0_init_7 rfl (by decide) (by first | omega | (dsimp only; omega)) (by first | omega | (dsimp only; omega)) ?_
  try dsimp only
  refine r_finA rfl (pc := 9) dX0_init_9 ffX0_9 (by simp (disch := omega) only [uK_n, hK]) (by omega) ?_
  refine r_aload_n (pc := 12) dX0_init_12 rfl ?_
  refine r_bipush (pc := 13) dX0_init_13 (by decide) ?_
  refine r_newI (N := 8) (pc := 15) dX0_init_15 rfl (by decide) (by first | omega | (dsimp only; omega)) (by first | omega | (dsimp only; omega)) ?_
  try dsimp only
  refine r_finA rfl (pc := 17) dX0_init_17 ffX0_15 (by simp (disch := omega) only [uK_n, hK]) (by omega) ?_
  refine r_aload_n (pc := 20) dX0_init_20 rfl ?_
  refine r_bipush (pc := 21) dX0_init_21 (by decide) ?_
  refine r_newI (N := 8) (pc := 23) dX0_init_23 rfl (by decide) (by first | omega | (dsimp only; omega)) (by first | omega | (dsimp only; omega)) ?_
  try dsimp only
  refine r_finA rfl (pc := 25) dX0_init_25 ffX0_18 (by simp (disch := omega) only [uK_n, hK]) (by omega) ?_
  refine r_aload_n (pc := 28) dX0_init_28 rfl ?_
  refine r_bipush (pc := 29) dX0_init_29 (by decide) ?_
  refine r_newI (N := 10) (pc := 31) dX0_init_31 rfl (by decide) (by first | omega | (dsimp only; omega)) (by first | omega | (dsimp only; omega)) ?_
  try dsimp only
  refine r_finA rfl (pc := 33) dX0_init_33 ffX0_21 (by simp (disch := omega) only [uK_n, hK]) (by omega) ?_
  refine r_aload_n (pc := 36) dX0_init_36 rfl ?_
  refine r_bipush (pc := 37) dX0_init_37 (by decide) ?_
  refine r_newI (N := 10) (pc := 39) dX0_init_39 rfl (by decide) (by first | omega | (dsimp only; omega)) (by first | omega | (dsimp only; omega)) ?_
  try dsimp only
  refine r_finA rfl (pc := 41) dX0_init_41 ffX0_24 (by simp (disch := omega) only [uK_n, hK]) (by omega) ?_
  refine r_aload_n (pc := 44) dX0_init_44 rfl ?_
  refine r_bipush (pc := 45) dX0_init_45 (by decide) ?_
  refine r_newI (N := 10) (pc := 47) dX0_init_47 rfl (by decide) (by first | omega | (dsimp only; omega)) (by first | omega | (dsimp only; omega)) ?_
  try dsimp only
  refine r_finA rfl (pc := 49) dX0_init_49 ffX0_27 (by simp (disch := omega) only [uK_n, hK]) (by omega) ?_
  refine r_aload_n (pc := 52) dX0_init_52 rfl ?_
  refine r_bipush (pc := 53) dX0_init_53 (by decide) ?_
  refine r_newI (N := 24) (pc := 55) dX0_init_55 rfl (by decide) (by first | omega | (dsimp only; omega)) (by first | omega | (dsimp only; omega)) ?_
  try dsimp only
  refine r_finA rfl (pc := 57) dX0_init_57 ffX0_30 (by simp (disch := omega) only [uK_n, hK]) (by omega) ?_
  refine r_vret (pc := 60) dX0_init_60 rfl ?_
  refine ⟨rfl, ⟨(by dsimp only; try omega), (by dsimp only; try omega)⟩, fun x hx => ?_, fun x hx hxa => ?_, ?_, ?_, fun x h1 h2 => ?_⟩
  · replace hx : x < a + 1 := hx
    simp (disch := omega) only [uK_n]
  · replace hx : x < a + 1 := hx
    refine ⟨?_, ?_, ?_⟩ <;> simp (disch := omega) only [u1_n, u2_n]
  · refine ⟨hB, ?_⟩
    simp (disch := omega) only [uK_e, uK_n, u2_s, u2_k, u1_n, hK, true_and, and_self]
  · simp (disch := omega) only [u1_n]
  · have h3 : x = a + 1 ∨ x = a + 2 ∨ x = a + 3 ∨ x = a + 4 ∨ x = a + 5 ∨ x = a + 6 ∨ x = a + 7 := by omega
    rcases h3 with rfl | rfl | rfl | rfl | rfl | rfl | rfl <;> simp (disch := omega) only [u1_r, u1_n]
theorem sX7_init {a : Nat} (hK : C.1 a = some (.inl 7)) (hB : gB G ≤ a) (hC : C.2.1 = a + 1) : Sp G yX7_init cX7_init 1 none 1 2 153 [.ref a] C I P L (NC a 2 153 C I P L (fun C1 I1 P1 L1 => ReadL G C1 P1 a ∧ I1 a = I a ∧ ∀ x, a < x → x < a + 3 → I1 x = fun _ => 0)) := by
  obtain ⟨K, n, s⟩ := C
  replace hC : n = a + 1 := hC
  replace hK : K a = some (.inl 7) := hK
  subst hC
  refine en_C (by decide +kernel) (Nat.le_of_ble_eq_true rfl) ?_
  change Wd _ _ _ _ _ _ _ _ 0 [some _] [] _ _ _ _
  refine r_aload_n (pc := 0) dX7_init_0 rfl ?_
  refine r_obj (pc := 1) q28 dX7_init_1 (by decide) (Nat.le_of_ble_eq_true rfl) ?_
  refine r_aload_n (pc := 4) dX7_init_4 rfl ?_
  refine r_sipush (pc := 5) dX7_init_5 (by decide) ?_
  refine r_newI (N := 150) (pc := 8) dX7_init_8 rfl (by decide) (by first | omega | (dsimp only; omega)) (by first | omega | (dsimp only; omega)) ?_
  try dsimp only
  refine r_finA rfl (pc := 10) dX7_init_10 ffX7_9 (by simp (disch := omega) only [uK_n, hK]) (by omega) ?_
  refine r_aload_n (pc := 13) dX7_init_13 rfl ?_
  refine r_iconst (pc := 14) dX7_init_14 ?_
  refine r_newI (N := 3) (pc := 15) dX7_init_15 rfl (by decide) (by first | omega | (dsimp only; omega)) (by first | omega | (dsimp only; omega)) ?_
  try dsimp only
  refine r_finA rfl (pc := 17) dX7_init_17 ffX7_15 (by simp (disch := omega) only [uK_n, hK]) (by omega) ?_
  refine r_vret (pc := 20) dX7_init_20 rfl ?_
  refine ⟨rfl, ⟨(by dsimp only; try omega), (by dsimp only; try omega)⟩, fun x hx => ?_, fun x hx hxa => ?_, ?_, ?_, fun x h1 h2 => ?_⟩
  · replace hx : x < a + 1 := hx
    simp (disch := omega) only [uK_n]
  · replace hx : x < a + 1 := hx
    refine ⟨?_, ?_, ?_⟩ <;> simp (disch := omega) only [u1_n, u2_n]
  · refine ⟨hB, ?_⟩
    simp (disch := omega) only [uK_e, uK_n, u2_s, u2_k, u1_n, hK, true_and, and_self]
  · simp (disch := omega) only [u1_n]
  · have h3 : x = a + 1 ∨ x = a + 2 := by omega
    rcases h3 with rfl | rfl <;> simp (disch := omega) only [u1_r, u1_n]
end INITS


