/-! the reference's constructor -/
section INIT12
variable {G : WG} {C : CF} {I : MI} {P : MP} {L : ML}
theorem Wd_gen {y : MethodName} {cc : ByteArray} {mL : Nat} {rt : Option FieldType} {rk : Nat} {Z : Nat × Nat} {Q : Post} {pc : Nat} {ls : List (Option Value)} {st : List Value} (p : MI → MP → ML → Prop) (h : p I P L) (k : ∀ I1 P1 L1, p I1 P1 L1 → Wd G y cc mL rt rk Z Q pc ls st C I1 P1 L1) : Wd G y cc mL rt rk Z Q pc ls st C I P L := k I P L h
def RN (G : WG) (C : CF) (I : MI) (P : MP) (L : ML) (m : Nat) : Prop := RfL G C P m ∧ I (m + 1) = begR (fun _ => 0) 10 ∧ (∀ x, x = m ∨ (m + 1 < x ∧ x < m + 12) → I x = fun _ => 0) ∧ L m 4 = 0 ∧ L m 5 = 1
theorem sX12_init {m : Nat} (hK : C.1 m = some (.inl 12)) (hB : gB G ≤ m) (hC : C.2.1 = m + 1) (hI : I m = fun _ => 0) (hL : L m = fun _ => 0) : Sp G yX12_init cX12_init 1 none 1 11 1091 [.ref m] C I P L (NC m 11 1091 C I P L (fun C1 I1 P1 L1 => RN G C1 I1 P1 L1 m)) := by
  obtain ⟨K, n, s⟩ := C
  replace hC : n = m + 1 := hC
  replace hK : K m = some (.inl 12) := hK
  subst hC
  refine en_C (by decide +kernel) (Nat.le_of_ble_eq_true rfl) ?_
  change Wd _ _ _ _ _ _ _ _ 0 [some _] [] _ _ _ _
  refine r_aload_n (pc := 0) dX12_init_0 rfl ?_
  refine r_obj (pc := 1) q1032 dX12_init_1 (by decide) (Nat.le_of_ble_eq_true rfl) ?_
  refine r_aload_n (pc := 4) dX12_init_4 rfl ?_
  refine r_sipush (pc := 5) dX12_init_5 (by decide) ?_
  refine r_newI (N := 236) (pc := 8) dX12_init_8 rfl (by decide) (by first | omega | (dsimp only; omega)) (by first | omega | (dsimp only; omega)) ?_
  try dsimp only
  refine r_finA rfl (pc := 10) dX12_init_10 ffX12_7 (by first | assumption | (simp (disch := omega) only [uK_e, uK_n, hK]; done)) (by omega) ?_
  refine r_aload_n (pc := 13) dX12_init_13 rfl ?_
  refine r_sipush (pc := 14) dX12_init_14 (by decide) ?_
  refine r_newI (N := 472) (pc := 17) dX12_init_17 rfl (by decide) (by first | omega | (dsimp only; omega)) (by first | omega | (dsimp only; omega)) ?_
  try dsimp only
  refine r_finA rfl (pc := 19) dX12_init_19 ffX12_13 (by first | assumption | (simp (disch := omega) only [uK_e, uK_n, hK]; done)) (by omega) ?_
  refine r_aload_n (pc := 22) dX12_init_22 rfl ?_
  refine r_iconst (pc := 23) dX12_init_23 ?_
  refine r_newZ (N := 2) (pc := 24) dX12_init_24 rfl (by decide) (by first | omega | (dsimp only; omega)) (by first | omega | (dsimp only; omega)) ?_
  try dsimp only
  refine r_finA rfl (pc := 26) dX12_init_26 ffX12_16 (by first | assumption | (simp (disch := omega) only [uK_e, uK_n, hK]; done)) (by omega) ?_
  refine r_aload_n (pc := 29) dX12_init_29 rfl ?_
  refine r_iconst (pc := 30) dX12_init_30 ?_
  refine r_newI (N := 3) (pc := 31) dX12_init_31 rfl (by decide) (by first | omega | (dsimp only; omega)) (by first | omega | (dsimp only; omega)) ?_
  try dsimp only
  refine r_finA rfl (pc := 33) dX12_init_33 ffX12_20 (by first | assumption | (simp (disch := omega) only [uK_e, uK_n, hK]; done)) (by omega) ?_
  refine r_aload_n (pc := 36) dX12_init_36 rfl ?_
  refine r_lconst (v := 1) (pc := 37) dX12_init_37 (by decide) ?_
  refine r_putL (pc := 38) dX12_init_38 fwX12_23 (by first | assumption | (simp (disch := omega) only [uK_e, uK_n, hK]; done)) (by omega) ?_
  refine r_aload_n (pc := 41) dX12_init_41 rfl ?_
  refine r_bipush (pc := 42) dX12_init_42 (by decide) ?_
  refine r_newI (N := 33) (pc := 44) dX12_init_44 rfl (by decide) (by first | omega | (dsimp only; omega)) (by first | omega | (dsimp only; omega)) ?_
  try dsimp only
  refine r_finA rfl (pc := 46) dX12_init_46 ffX12_27 (by first | assumption | (simp (disch := omega) only [uK_e, uK_n, hK]; done)) (by omega) ?_
  refine r_aload_n (pc := 49) dX12_init_49 rfl ?_
  refine r_bipush (pc := 50) dX12_init_50 (by decide) ?_
  refine r_newI (N := 64) (pc := 52) dX12_init_52 rfl (by decide) (by first | omega | (dsimp only; omega)) (by first | omega | (dsimp only; omega)) ?_
  try dsimp only
  refine r_finA rfl (pc := 54) dX12_init_54 ffX12_30 (by first | assumption | (simp (disch := omega) only [uK_e, uK_n, hK]; done)) (by omega) ?_
  refine r_aload_n (pc := 57) dX12_init_57 rfl ?_
  refine r_bipush (pc := 58) dX12_init_58 (by decide) ?_
  refine r_newI (N := 6) (pc := 60) dX12_init_60 rfl (by decide) (by first | omega | (dsimp only; omega)) (by first | omega | (dsimp only; omega)) ?_
  try dsimp only
  refine r_finA rfl (pc := 62) dX12_init_62 ffX12_33 (by first | assumption | (simp (disch := omega) only [uK_e, uK_n, hK]; done)) (by omega) ?_
  refine r_aload_n (pc := 65) dX12_init_65 rfl ?_
  refine r_bipush (pc := 66) dX12_init_66 (by decide) ?_
  refine r_newI (N := 6) (pc := 68) dX12_init_68 rfl (by decide) (by first | omega | (dsimp only; omega)) (by first | omega | (dsimp only; omega)) ?_
  try dsimp only
  refine r_finA rfl (pc := 70) dX12_init_70 ffX12_36 (by first | assumption | (simp (disch := omega) only [uK_e, uK_n, hK]; done)) (by omega) ?_
  refine r_aload_n (pc := 73) dX12_init_73 rfl ?_
  refine r_sipush (pc := 74) dX12_init_74 (by decide) ?_
  refine r_newI (N := 150) (pc := 77) dX12_init_77 rfl (by decide) (by first | omega | (dsimp only; omega)) (by first | omega | (dsimp only; omega)) ?_
  try dsimp only
  refine r_finA rfl (pc := 79) dX12_init_79 ffX12_39 (by first | assumption | (simp (disch := omega) only [uK_e, uK_n, hK]; done)) (by omega) ?_
  refine r_aload_n (pc := 82) dX12_init_82 rfl ?_
  refine r_bipush (pc := 83) dX12_init_83 (by decide) ?_
  refine r_newI (N := 116) (pc := 85) dX12_init_85 rfl (by decide) (by first | omega | (dsimp only; omega)) (by first | omega | (dsimp only; omega)) ?_
  try dsimp only
  refine r_finA rfl (pc := 87) dX12_init_87 ffX12_42 (by first | assumption | (simp (disch := omega) only [uK_e, uK_n, hK]; done)) (by omega) ?_
  refine r_aload_n (pc := 90) dX12_init_90 rfl ?_
  refine r_iconst (pc := 91) dX12_init_91 ?_
  refine r_newI (N := 3) (pc := 92) dX12_init_92 rfl (by decide) (by first | omega | (dsimp only; omega)) (by first | omega | (dsimp only; omega)) ?_
  try dsimp only
  refine r_finA rfl (pc := 94) dX12_init_94 ffX12_45 (by first | assumption | (simp (disch := omega) only [uK_e, uK_n, hK]; done)) (by omega) ?_
  refine r_aload_n (pc := 97) dX12_init_97 rfl ?_
  refine Wd_gen (fun I' P' L' => I' (m + 1) = (fun _ => 0) ∧ (∀ x, x = m ∨ (m + 1 < x ∧ x < m + 12) → I' x = fun _ => 0) ∧ (∀ x, x < m → I' x = I x) ∧ (∀ x, x < m → P' x = P x) ∧ (∀ x, x < m → L' x = L x) ∧ (P' m 0 = some (m + 1) ∧ P' m 1 = some (m + 2) ∧ P' m 2 = some (m + 3) ∧ P' m 3 = some (m + 4) ∧ P' m 6 = some (m + 5) ∧ P' m 7 = some (m + 6) ∧ P' m 8 = some (m + 7) ∧ P' m 9 = some (m + 8) ∧ P' m 10 = some (m + 9) ∧ P' m 16 = some (m + 10) ∧ P' m 17 = some (m + 11)) ∧ L' m 4 = 0 ∧ L' m 5 = 1) ?_ (fun I1 P1 L1 hh => ?_)
  · refine ⟨?_, fun x hx => ?_, fun x hx => ?_, fun x hx => ?_, fun x hx => ?_, ?_, ?_, ?_⟩
    · simp (disch := omega) only [u1_n, u1_r]
    · have h3 : x = m ∨ x = m + 2 ∨ x = m + 3 ∨ x = m + 4 ∨ x = m + 5 ∨ x = m + 6 ∨ x = m + 7 ∨ x = m + 8 ∨ x = m + 9 ∨ x = m + 10 ∨ x = m + 11 := by omega
      rcases h3 with rfl | rfl | rfl | rfl | rfl | rfl | rfl | rfl | rfl | rfl | rfl <;> simp (disch := omega) only [u1_n, u1_r, hI]
    · simp (disch := omega) only [u1_n]
    · simp (disch := omega) only [u1_n, u2_n]
    · simp (disch := omega) only [u1_n, u2_n]
    · simp (disch := omega) only [u1_n, u2_n, u2_k, u2_s, true_and, and_self]
    · simp (disch := omega) only [u1_n, u2_k, hL]
    · simp (disch := omega) only [u1_n, u2_s]
  obtain ⟨i1, i2, i3, p3, l3, pp, l4, l5⟩ := hh
  have hg : P1 m 0 = some (m + 1) := pp.1
  refine r_getA (pc := 98) dX12_init_98 frX12_7 (by first | assumption | (simp (disch := omega) only [uK_e, uK_n, hK]; done)) (by assumption) ?_
  refine r_bipush (pc := 101) dX12_init_101 (by decide) ?_
  refine i_S2vx (pc := 103) okX12_begin staX12_begin q1033 dX12_init_103 (by decide) (Nat.le_of_ble_eq_true rfl) (sX12_begin (n := 236) (by simp (disch := omega) only [uK_e, uK_n]; done)) ?_
  refine r_vret (pc := 106) dX12_init_106 rfl ?_
  refine ⟨rfl, ⟨(by dsimp only; try omega), (by dsimp only; try omega)⟩, fun x hx => ?_, fun x hx hxa => ?_, ⟨⟨hB, ?_⟩, ?_, fun x hx => ?_, l4, l5⟩⟩
  · replace hx : x < m + 1 := hx
    simp (disch := omega) only [uK_n]
  · replace hx : x < m + 1 := hx
    exact ⟨by rw [uR_n _ _ (by omega)]; exact i3 x (by omega), p3 x (by omega), l3 x (by omega)⟩
  · obtain ⟨q1, q2, q3, q4, q5, q6, q7, q8, q9, qa, qb⟩ := pp
    refine ⟨?_, ?_, ?_, ?_, ?_, ?_, ?_, ?_, ?_, ?_, ?_, ?_, q1, q2, q3, q4, q5, q6, q7, q8, q9, qa, qb⟩ <;> simp (disch := omega) only [uK_e, uK_n, hK]
  · rw [uR_s, i1]
  · rw [uR_n _ _ (by omega)]; exact i2 x hx
end INIT12

