/-! the class's constructor -/
section INIT11
variable {G : WG} {C : CF} {I : MI} {P : MP} {L : ML}
theorem LN.keep {C1 : CF} {I1 : MI} {P1 : MP} {l : Nat} (h : LN G C I P l) (hc : ∀ x, l ≤ x → x < l + 80 → C1.1 x = C.1 x) (hi : ∀ x, l ≤ x → x < l + 80 → I1 x = I x) (hp : ∀ x, l ≤ x → x < l + 80 → P1 x = P x) : LN G C1 I1 P1 l := by
  obtain ⟨⟨b0, b1, b2, b3, b4, b5, b6, b7, b8⟩, h2, h3, h4⟩ := h
  have h3' : FN G C1 I1 P1 (l + 10) := h3.keep (fun x q1 q2 => hc x (by omega) (by omega)) (fun x q1 q2 => hi x (by omega) (by omega)) (fun x q1 q2 => hp x (by omega) (by omega))
  have h4' : ∀ i, i < 6 → FN G C1 I1 P1 (l + 20 + 10 * i) := fun i hi6 => (h4 i hi6).keep (fun x q1 q2 => hc x (by omega) (by omega)) (fun x q1 q2 => hi x (by omega) (by omega)) (fun x q1 q2 => hp x (by omega) (by omega))
  exact ⟨⟨b0, by rw [hc _ (by omega) (by omega)]; exact b1, by rw [hc _ (by omega) (by omega)]; exact b2, by rw [hp _ (by omega) (by omega)]; exact b3, by rw [hp _ (by omega) (by omega)]; exact b4, by rw [hp _ (by omega) (by omega)]; exact b5, b6.keep (fun x q1 q2 => hc x (by omega) (by omega)) (hp _ (by omega) (by omega)), h3'.1, fun i hi6 => ⟨(h4' i hi6).1, by rw [hp _ (by omega) (by omega)]; exact (b8 i hi6).2⟩⟩, fun x q1 q2 => by rw [hi x (by omega) (by omega)]; exact h2 x q1 q2, h3', h4'⟩
theorem TN.keep {C1 : CF} {I1 : MI} {P1 : MP} {l : Nat} (h : TN G C I P l) (hc : ∀ x, l ≤ x → x < l + 96 → C1.1 x = C.1 x) (hi : ∀ x, l ≤ x → x < l + 96 → I1 x = I x) (hp : ∀ x, l ≤ x → x < l + 96 → P1 x = P x) : TN G C1 I1 P1 l := by
  obtain ⟨⟨b0, b1, b2, b3, b4, b5, b6, c0, c1, c2, c3, c4, c5, b7, b8⟩, h2, h3, h4⟩ := h
  have h3' : FN G C1 I1 P1 (l + 6) := h3.keep (fun x q1 q2 => hc x (by omega) (by omega)) (fun x q1 q2 => hi x (by omega) (by omega)) (fun x q1 q2 => hp x (by omega) (by omega))
  have h4' : ∀ i, i < 8 → FN G C1 I1 P1 (l + 16 + 10 * i) := fun i hi6 => (h4 i hi6).keep (fun x q1 q2 => hc x (by omega) (by omega)) (fun x q1 q2 => hi x (by omega) (by omega)) (fun x q1 q2 => hp x (by omega) (by omega))
  refine ⟨⟨b0, by rw [hc _ (by omega) (by omega)]; exact b1, by rw [hc _ (by omega) (by omega)]; exact b2, by rw [hc _ (by omega) (by omega)]; exact b3, by rw [hc _ (by omega) (by omega)]; exact b4, by rw [hc _ (by omega) (by omega)]; exact b5, by rw [hc _ (by omega) (by omega)]; exact b6, ?_, ?_, ?_, ?_, ?_, ?_, h3'.1, fun i hi6 => ⟨(h4' i hi6).1, by rw [hp _ (by omega) (by omega)]; exact (b8 i hi6).2⟩⟩, fun x q1 q2 => by rw [hi x (by omega) (by omega)]; exact h2 x q1 q2, h3', h4'⟩
  all_goals (rw [hp _ (by omega) (by omega)]; assumption)
def YN (G : WG) (C : CF) (I : MI) (P : MP) (L : ML) : Prop := YL G C P ∧ LN G C I P (gB G + 11) ∧ LN G C I P (gB G + 91) ∧ LN G C I P (gB G + 171) ∧ LN G C I P (gB G + 251) ∧ TN G C I P (gB G + 331) ∧ (∀ x, gB G ≤ x → x < gB G + 11 → I x = fun _ => 0) ∧ L (gB G) 11 = 0 ∧ L (gB G) 12 = 1
theorem sX11_init (hK : C.1 (gB G) = some (.inl 11)) (hC : C.2.1 = gB G + 1) (hI : I (gB G) = fun _ => 0) (hL : L (gB G) = fun _ => 0) : Sp G yX11_init cX11_init 2 none 4 426 2722 [.ref (gB G)] C I P L (NC (gB G) 426 2722 C I P L (fun C1 I1 P1 L1 => YN G C1 I1 P1 L1)) := by
  obtain ⟨K, n, s⟩ := C
  replace hC : n = gB G + 1 := hC
  replace hK : K (gB G) = some (.inl 11) := hK
  subst hC
  refine en_C (by decide +kernel) (Nat.le_of_ble_eq_true rfl) ?_
  change Wd _ _ _ _ _ _ _ _ 0 [some _, none] [] _ _ _ _
  refine r_aload_n (pc := 0) dX11_init_0 rfl ?_
  refine r_obj (pc := 1) q20 dX11_init_1 (by decide) (Nat.le_of_ble_eq_true rfl) ?_
  refine r_aload_n (pc := 4) dX11_init_4 rfl ?_
  refine r_new (c := 7) (N := 7) (pc := 5) rfl rfl q23 q24 q2 dX11_init_5 (by first | omega | (dsimp only; omega)) (by first | omega | (dsimp only; omega)) ?_
  try dsimp only
  refine r_dup (pc := 8) dX11_init_8 rfl ?_
  refine i_IN0c (pc := 9) okX7_init rfl inX7_init nwX11_9 dX11_init_9 (by decide) (Nat.le_of_ble_eq_true rfl) (by first | omega | (dsimp only; omega)) (by first | omega | (dsimp only; omega)) (sX7_init (G := G) (a := gB G + 1) (by exact uK_e _ _ _) (by omega) rfl) (fun C1 I1 P1 L1 e1 e2 e3 e4 e5 => ?_)
  obtain ⟨K1, n1, s1⟩ := C1
  dsimp only at e1 e2 e3 e4
  have e1' : n1 = gB G + 4 := by omega
  have e2' : s1 = s + 160 := by omega
  subst e1' e2'
  have f0 : K1 (gB G) = some (.inl 11) := by rw [e3 _ (by omega), uK_n _ _ (by omega)]; exact hK
  have fk : ∀ x, x < gB G → K1 x = K x := fun x hx => by rw [e3 _ (by omega), uK_n _ _ (by omega)]
  have fi : ∀ x, x < gB G + 1 → I1 x = I x := fun x hx => by rw [(e4 x (by omega) (by omega)).1, u1_n _ _ (by omega)]
  have fp : ∀ x, x < gB G → P1 x = P x := fun x hx => by rw [(e4 x (by omega) (by omega)).2.1, u1_n _ _ (by omega)]
  have fl : ∀ x, x < gB G + 1 → L1 x = L x := fun x hx => by rw [(e4 x (by omega) (by omega)).2.2, u1_n _ _ (by omega)]
  refine r_finP rfl (pc := 12) dX11_init_12 ffX11_10 (by first | assumption | (simp (disch := omega) only [uK_e, uK_n, hK]; done) | (simp (disch := omega) only [uK_e, uK_n, f0]; done)) (by omega) ?_
  refine r_aload_n (pc := 15) dX11_init_15 rfl ?_
  refine r_bipush (pc := 16) dX11_init_16 (by decide) ?_
  refine r_newI (N := 6) (pc := 18) dX11_init_18 rfl (by decide) (by first | omega | (dsimp only; omega)) (by first | omega | (dsimp only; omega)) ?_
  try dsimp only
  refine r_finA rfl (pc := 20) dX11_init_20 ffX11_16 (by first | assumption | (simp (disch := omega) only [uK_e, uK_n, hK]; done) | (simp (disch := omega) only [uK_e, uK_n, f0]; done)) (by omega) ?_
  refine r_iconst (pc := 23) dX11_init_23 ?_
  refine r_anew (t := 4) (N := 5) (pc := 24) rfl (by decide) q48 (by decide) dX11_init_24 rfl (by decide) (by first | omega | (dsimp only; omega)) (by first | omega | (dsimp only; omega)) ?_
  try dsimp only
  refine r_dup (pc := 27) dX11_init_27 rfl ?_
  refine r_iconst (pc := 28) dX11_init_28 ?_
  refine r_new (c := 3) (N := 0) (pc := 29) rfl rfl q48 q50 q3 dX11_init_29 (by first | omega | (dsimp only; omega)) (by first | omega | (dsimp only; omega)) ?_
  try dsimp only
  refine r_dup (pc := 32) dX11_init_32 rfl ?_
  refine i_IN0x (pc := 33) okX3_init rfl inX3_init nwX11_22 dX11_init_33 (by decide) (Nat.le_of_ble_eq_true rfl) (by first | omega | (dsimp only; omega)) (by first | omega | (dsimp only; omega)) (sX3_init) ?_
  refine r_aast (t := 4) (n := 5) (j := 0) (cb := 3) (pc := 36) dX11_init_36 (by first | assumption | (simp (disch := omega) only [uK_e, uK_n, hK]; done) | (simp (disch := omega) only [uK_e, uK_n, f0]; done)) rfl (by decide) (by omega) rfl (by omega) (by omega) (by first | assumption | (simp (disch := omega) only [uK_e, uK_n, hK]; done) | (simp (disch := omega) only [uK_e, uK_n, f0]; done)) rfl (Or.inl rfl) ?_
  refine r_dup (pc := 37) dX11_init_37 rfl ?_
  refine r_iconst (pc := 38) dX11_init_38 ?_
  refine r_new (c := 9) (N := 0) (pc := 39) rfl rfl q56 q57 q4 dX11_init_39 (by first | omega | (dsimp only; omega)) (by first | omega | (dsimp only; omega)) ?_
  try dsimp only
  refine r_dup (pc := 42) dX11_init_42 rfl ?_
  refine i_IN0x (pc := 43) okX9_init rfl inX9_init nwX11_25 dX11_init_43 (by decide) (Nat.le_of_ble_eq_true rfl) (by first | omega | (dsimp only; omega)) (by first | omega | (dsimp only; omega)) (sX9_init) ?_
  refine r_aast (t := 4) (n := 5) (j := 1) (cb := 9) (pc := 46) dX11_init_46 (by first | assumption | (simp (disch := omega) only [uK_e, uK_n, hK]; done) | (simp (disch := omega) only [uK_e, uK_n, f0]; done)) rfl (by decide) (by omega) rfl (by omega) (by omega) (by first | assumption | (simp (disch := omega) only [uK_e, uK_n, hK]; done) | (simp (disch := omega) only [uK_e, uK_n, f0]; done)) rfl (Or.inr (List.mem_of_getElem? (i := 0) rfl)) ?_
  refine r_dup (pc := 47) dX11_init_47 rfl ?_
  refine r_iconst (pc := 48) dX11_init_48 ?_
  refine r_new (c := 4) (N := 0) (pc := 49) rfl rfl q63 q64 q5 dX11_init_49 (by first | omega | (dsimp only; omega)) (by first | omega | (dsimp only; omega)) ?_
  try dsimp only
  refine r_dup (pc := 52) dX11_init_52 rfl ?_
  refine i_IN0x (pc := 53) okX4_init rfl inX4_init nwX11_28 dX11_init_53 (by decide) (Nat.le_of_ble_eq_true rfl) (by first | omega | (dsimp only; omega)) (by first | omega | (dsimp only; omega)) (sX4_init) ?_
  refine r_aast (t := 4) (n := 5) (j := 2) (cb := 4) (pc := 56) dX11_init_56 (by first | assumption | (simp (disch := omega) only [uK_e, uK_n, hK]; done) | (simp (disch := omega) only [uK_e, uK_n, f0]; done)) rfl (by decide) (by omega) rfl (by omega) (by omega) (by first | assumption | (simp (disch := omega) only [uK_e, uK_n, hK]; done) | (simp (disch := omega) only [uK_e, uK_n, f0]; done)) rfl (Or.inr (List.mem_of_getElem? (i := 1) rfl)) ?_
  refine r_dup (pc := 57) dX11_init_57 rfl ?_
  refine r_iconst (pc := 58) dX11_init_58 ?_
  refine r_new (c := 6) (N := 0) (pc := 59) rfl rfl q70 q71 q6 dX11_init_59 (by first | omega | (dsimp only; omega)) (by first | omega | (dsimp only; omega)) ?_
  try dsimp only
  refine r_dup (pc := 62) dX11_init_62 rfl ?_
  refine i_IN0x (pc := 63) okX6_init rfl inX6_init nwX11_31 dX11_init_63 (by decide) (Nat.le_of_ble_eq_true rfl) (by first | omega | (dsimp only; omega)) (by first | omega | (dsimp only; omega)) (sX6_init) ?_
  refine r_aast (t := 4) (n := 5) (j := 3) (cb := 6) (pc := 66) dX11_init_66 (by first | assumption | (simp (disch := omega) only [uK_e, uK_n, hK]; done) | (simp (disch := omega) only [uK_e, uK_n, f0]; done)) rfl (by decide) (by omega) rfl (by omega) (by omega) (by first | assumption | (simp (disch := omega) only [uK_e, uK_n, hK]; done) | (simp (disch := omega) only [uK_e, uK_n, f0]; done)) rfl (Or.inr (List.mem_of_getElem? (i := 2) rfl)) ?_
  refine r_dup (pc := 67) dX11_init_67 rfl ?_
  refine r_iconst (pc := 68) dX11_init_68 ?_
  refine r_new (c := 8) (N := 0) (pc := 69) rfl rfl q77 q78 q7 dX11_init_69 (by first | omega | (dsimp only; omega)) (by first | omega | (dsimp only; omega)) ?_
  try dsimp only
  refine r_dup (pc := 72) dX11_init_72 rfl ?_
  refine i_IN0x (pc := 73) okX8_init rfl inX8_init nwX11_34 dX11_init_73 (by decide) (Nat.le_of_ble_eq_true rfl) (by first | omega | (dsimp only; omega)) (by first | omega | (dsimp only; omega)) (sX8_init) ?_
  refine r_aast (t := 4) (n := 5) (j := 4) (cb := 8) (pc := 76) dX11_init_76 (by first | assumption | (simp (disch := omega) only [uK_e, uK_n, hK]; done) | (simp (disch := omega) only [uK_e, uK_n, f0]; done)) rfl (by decide) (by omega) rfl (by omega) (by omega) (by first | assumption | (simp (disch := omega) only [uK_e, uK_n, hK]; done) | (simp (disch := omega) only [uK_e, uK_n, f0]; done)) rfl (Or.inr (List.mem_of_getElem? (i := 3) rfl)) ?_
  refine r_astore_n (pc := 77) dX11_init_77 (by decide) ?_
  refine r_aload_n (pc := 78) dX11_init_78 rfl ?_
  refine r_new (c := 5) (N := 5) (pc := 79) rfl rfl q84 q85 q8 dX11_init_79 (by first | omega | (dsimp only; omega)) (by first | omega | (dsimp only; omega)) ?_
  try dsimp only
  refine r_dup (pc := 82) dX11_init_82 rfl ?_
  refine r_aload_n (pc := 83) dX11_init_83 rfl ?_
  refine i_I1c (pc := 84) okX5_init rfl inX5_init q86 dX11_init_84 (by decide) (Nat.le_of_ble_eq_true rfl) (by first | omega | (dsimp only; omega)) (by first | omega | (dsimp only; omega)) (sX5_init (G := G) (l := gB G + 11) (by exact uK_e _ _ _) (by omega) rfl (by exact u1_r _ _ _)) (fun C2 I2 P2 L2 e1 e2 o3 o4 o5 => ?_)
  obtain ⟨K2, n2, s2⟩ := C2
  dsimp only at e1 e2 o3 o4
  have e1' : n2 = gB G + 91 := by omega
  have e2' : s2 = s + 649 := by omega
  subst e1' e2'
  have hk : ∀ x, x < gB G + 4 → K2 x = K1 x := fun x hx => by rw [o3 x (by omega)]; simp (disch := omega) only [uK_n]
  have hi : ∀ x, x < gB G + 4 → I2 x = I1 x := fun x hx => by rw [(o4 x (by omega) (by omega)).1]; simp (disch := omega) only [u1_n]
  have hp : ∀ x, x < gB G + 4 → x ≠ gB G → P2 x = P1 x := fun x hx hxg => by rw [(o4 x (by omega) (by omega)).2.1]; simp (disch := omega) only [u1_n, u2_n]
  have hl : ∀ x, x < gB G + 4 → L2 x = L1 x := fun x hx => by rw [(o4 x (by omega) (by omega)).2.2]; simp (disch := omega) only [u1_n]
  have g2 : K2 (gB G) = some (.inl 11) := by rw [hk _ (by omega)]; exact f0
  have k4 : K2 (gB G + 4) = some (.inr (0, 6)) := by rw [o3 _ (by omega)]; simp (disch := omega) only [uK_n, uK_e]
  have k5 : K2 (gB G + 5) = some (.inr (4, 5)) := by rw [o3 _ (by omega)]; simp (disch := omega) only [uK_n, uK_e]
  have p4 : P2 (gB G) 4 = some (gB G + 1) := by rw [(o4 _ (by omega) (by omega)).2.1]; simp (disch := omega) only [u1_n, u2_n, u2_k, u2_s]
  have p6 : P2 (gB G) 6 = some (gB G + 4) := by rw [(o4 _ (by omega) (by omega)).2.1]; simp (disch := omega) only [u1_n, u2_n, u2_k, u2_s]
  have kd : KindL G (K2, gB G + 91, s + 649) P2 := by
    refine ⟨k5, fun k hk5 => ?_⟩
    have h5 : k = 0 ∨ k = 1 ∨ k = 2 ∨ k = 3 ∨ k = 4 := by omega
    rcases h5 with rfl | rfl | rfl | rfl | rfl
    all_goals (refine ⟨?_, ?_⟩)
    all_goals first | (rw [(o4 _ (by omega) (by omega)).2.1]; simp (disch := omega) only [u1_n, u2_n, u2_k, u2_s]; done) | (show K2 _ = _; rw [o3 _ (by omega)]; simp (disch := omega) only [uK_n, uK_e]; rfl)
  have rd : ReadL G (K2, gB G + 91, s + 649) P2 (gB G + 1) := by
    obtain ⟨r0, r1, r2, r3, r4, r5⟩ := e5.1
    exact ⟨r0, (hk _ (by omega)).trans r1, (hk _ (by omega)).trans r2, (hk _ (by omega)).trans r3, by rw [hp _ (by omega) (by omega)]; exact r4, by rw [hp _ (by omega) (by omega)]; exact r5⟩
  have zi : ∀ x, gB G ≤ x → x < gB G + 11 → I2 x = fun _ => 0 := by
    intro x q1 q2
    by_cases hx4 : x < gB G + 4
    · rw [hi x hx4]
      by_cases hx1 : x < gB G + 1
      · rw [fi x hx1, show x = gB G by omega]; exact hI
      · by_cases hx2 : x = gB G + 1
        · rw [hx2, e5.2.1]; exact u1_r _ _ _
        · exact e5.2.2 x (by omega) (by omega)
    · have h5 : x = gB G + 4 ∨ x = gB G + 5 ∨ x = gB G + 6 ∨ x = gB G + 7 ∨ x = gB G + 8 ∨ x = gB G + 9 ∨ x = gB G + 10 := by omega
      rw [(o4 x (by omega) (by omega)).1]
      rcases h5 with rfl | rfl | rfl | rfl | rfl | rfl | rfl <;> simp (disch := omega) only [u1_n, u1_r]
  have fk : ∀ x, x < gB G → K2 x = K x := fun x hx => by rw [hk x (by omega)]; exact fk x hx
  have fi : ∀ x, x < gB G + 1 → I2 x = I x := fun x hx => by rw [hi x (by omega)]; exact fi x hx
  have fp : ∀ x, x < gB G → P2 x = P x := fun x hx => by rw [hp x (by omega) (by omega)]; exact fp x hx
  have fl : ∀ x, x < gB G + 1 → L2 x = L x := fun x hx => by rw [hl x (by omega)]; exact fl x hx
  have n2 := o5
  clear e3 e4 e5 o3 o4 o5 f0
  refine r_finP rfl (pc := 87) dX11_init_87 ffX11_40 (by first | assumption | (simp (disch := omega) only [uK_e, uK_n, hK]; done) | (simp (disch := omega) only [uK_e, uK_n, f0]; done)) (by omega) ?_
  refine r_aload_n (pc := 90) dX11_init_90 rfl ?_
  refine r_new (c := 5) (N := 5) (pc := 91) rfl rfl q84 q85 q8 dX11_init_91 (by first | omega | (dsimp only; omega)) (by first | omega | (dsimp only; omega)) ?_
  try dsimp only
  refine r_dup (pc := 94) dX11_init_94 rfl ?_
  refine r_aload_n (pc := 95) dX11_init_95 rfl ?_
  refine i_I1c (pc := 96) okX5_init rfl inX5_init q86 dX11_init_96 (by decide) (Nat.le_of_ble_eq_true rfl) (by first | omega | (dsimp only; omega)) (by first | omega | (dsimp only; omega)) (sX5_init (G := G) (l := gB G + 91) (by exact uK_e _ _ _) (by omega) rfl (by exact u1_r _ _ _)) (fun C3 I3 P3 L3 e1 e2 o3 o4 o5 => ?_)
  obtain ⟨K3, n3, s3⟩ := C3
  dsimp only at e1 e2 o3 o4
  have e1' : n3 = gB G + 171 := by omega
  have e2' : s3 = s + 1127 := by omega
  subst e1' e2'
  have hk : ∀ x, x < gB G + 91 → K3 x = K2 x := fun x hx => by rw [o3 x (by omega)]; simp (disch := omega) only [uK_n]
  have hi : ∀ x, x < gB G + 91 → I3 x = I2 x := fun x hx => by rw [(o4 x (by omega) (by omega)).1]; simp (disch := omega) only [u1_n]
  have hp : ∀ x, x < gB G + 91 → x ≠ gB G → P3 x = P2 x := fun x hx hxg => by rw [(o4 x (by omega) (by omega)).2.1]; simp (disch := omega) only [u1_n, u2_n]
  have hpo : P3 (gB G) = u2 P2 (gB G) 0 (some (gB G + 11)) (gB G) := by rw [(o4 _ (by omega) (by omega)).2.1]; simp (disch := omega) only [u1_n]
  have hl : ∀ x, x < gB G + 91 → L3 x = L2 x := fun x hx => by rw [(o4 x (by omega) (by omega)).2.2]; simp (disch := omega) only [u1_n]
  have g3 : K3 (gB G) = some (.inl 11) := by rw [hk _ (by omega)]; exact g2
  have k4 : K3 (gB G + 4) = some (.inr (0, 6)) := by rw [hk _ (by omega)]; exact k4
  have p4 : P3 (gB G) 4 = some (gB G + 1) := by rw [hpo, u2_k _ _ _ _ (by decide)]; exact p4
  have p6 : P3 (gB G) 6 = some (gB G + 4) := by rw [hpo, u2_k _ _ _ _ (by decide)]; exact p6
  have w0 : P3 (gB G) 0 = some (gB G + 11) := by rw [hpo]; exact u2_s _ _ _ _
  have kd : KindL G (K3, gB G + 171, s + 1127) P3 := ⟨(hk _ (by omega)).trans kd.1, fun k hk5 => ⟨by rw [hp _ (by omega) (by omega)]; exact (kd.2 k hk5).1, (hk _ (by omega)).trans (kd.2 k hk5).2⟩⟩
  have rd : ReadL G (K3, gB G + 171, s + 1127) P3 (gB G + 1) := ⟨rd.1, (hk _ (by omega)).trans rd.2.1, (hk _ (by omega)).trans rd.2.2.1, (hk _ (by omega)).trans rd.2.2.2.1, by rw [hp _ (by omega) (by omega)]; exact rd.2.2.2.2.1, by rw [hp _ (by omega) (by omega)]; exact rd.2.2.2.2.2⟩
  have zi : ∀ x, gB G ≤ x → x < gB G + 11 → I3 x = fun _ => 0 := fun x q1 q2 => by rw [hi x (by omega)]; exact zi x q1 q2
  have n2 : LN G (K3, gB G + 171, s + 1127) I3 P3 (gB G + 11) := n2.keep (fun x q1 q2 => hk x (by omega)) (fun x q1 q2 => hi x (by omega)) (fun x q1 q2 => hp x (by omega) (by omega))
  have fk : ∀ x, x < gB G → K3 x = K x := fun x hx => by rw [hk x (by omega)]; exact fk x hx
  have fi : ∀ x, x < gB G + 1 → I3 x = I x := fun x hx => by rw [hi x (by omega)]; exact fi x hx
  have fp : ∀ x, x < gB G → P3 x = P x := fun x hx => by rw [hp x (by omega) (by omega)]; exact fp x hx
  have fl : ∀ x, x < gB G + 1 → L3 x = L x := fun x hx => by rw [hl x (by omega)]; exact fl x hx
  have n3 := o5
  clear o3 o4 o5 hk hi hp hl hpo
  refine r_finP rfl (pc := 99) dX11_init_99 ffX11_44 (by first | assumption | (simp (disch := omega) only [uK_e, uK_n, hK]; done) | (simp (disch := omega) only [uK_e, uK_n, f0]; done)) (by omega) ?_
  refine r_aload_n (pc := 102) dX11_init_102 rfl ?_
  refine r_new (c := 5) (N := 5) (pc := 103) rfl rfl q84 q85 q8 dX11_init_103 (by first | omega | (dsimp only; omega)) (by first | omega | (dsimp only; omega)) ?_
  try dsimp only
  refine r_dup (pc := 106) dX11_init_106 rfl ?_
  refine r_aload_n (pc := 107) dX11_init_107 rfl ?_
  refine i_I1c (pc := 108) okX5_init rfl inX5_init q86 dX11_init_108 (by decide) (Nat.le_of_ble_eq_true rfl) (by first | omega | (dsimp only; omega)) (by first | omega | (dsimp only; omega)) (sX5_init (G := G) (l := gB G + 171) (by exact uK_e _ _ _) (by omega) rfl (by exact u1_r _ _ _)) (fun C4 I4 P4 L4 e1 e2 o3 o4 o5 => ?_)
  obtain ⟨K4, n4, s4⟩ := C4
  dsimp only at e1 e2 o3 o4
  have e1' : n4 = gB G + 251 := by omega
  have e2' : s4 = s + 1605 := by omega
  subst e1' e2'
  have hk : ∀ x, x < gB G + 171 → K4 x = K3 x := fun x hx => by rw [o3 x (by omega)]; simp (disch := omega) only [uK_n]
  have hi : ∀ x, x < gB G + 171 → I4 x = I3 x := fun x hx => by rw [(o4 x (by omega) (by omega)).1]; simp (disch := omega) only [u1_n]
  have hp : ∀ x, x < gB G + 171 → x ≠ gB G → P4 x = P3 x := fun x hx hxg => by rw [(o4 x (by omega) (by omega)).2.1]; simp (disch := omega) only [u1_n, u2_n]
  have hpo : P4 (gB G) = u2 P3 (gB G) 1 (some (gB G + 91)) (gB G) := by rw [(o4 _ (by omega) (by omega)).2.1]; simp (disch := omega) only [u1_n]
  have hl : ∀ x, x < gB G + 171 → L4 x = L3 x := fun x hx => by rw [(o4 x (by omega) (by omega)).2.2]; simp (disch := omega) only [u1_n]
  have g4 : K4 (gB G) = some (.inl 11) := by rw [hk _ (by omega)]; exact g3
  have k4 : K4 (gB G + 4) = some (.inr (0, 6)) := by rw [hk _ (by omega)]; exact k4
  have p4 : P4 (gB G) 4 = some (gB G + 1) := by rw [hpo, u2_k _ _ _ _ (by decide)]; exact p4
  have p6 : P4 (gB G) 6 = some (gB G + 4) := by rw [hpo, u2_k _ _ _ _ (by decide)]; exact p6
  have w0 : P4 (gB G) 0 = some (gB G + 11) := by rw [hpo, u2_k _ _ _ _ (by decide)]; exact w0
  have w1 : P4 (gB G) 1 = some (gB G + 91) := by rw [hpo]; exact u2_s _ _ _ _
  have kd : KindL G (K4, gB G + 251, s + 1605) P4 := ⟨(hk _ (by omega)).trans kd.1, fun k hk5 => ⟨by rw [hp _ (by omega) (by omega)]; exact (kd.2 k hk5).1, (hk _ (by omega)).trans (kd.2 k hk5).2⟩⟩
  have rd : ReadL G (K4, gB G + 251, s + 1605) P4 (gB G + 1) := ⟨rd.1, (hk _ (by omega)).trans rd.2.1, (hk _ (by omega)).trans rd.2.2.1, (hk _ (by omega)).trans rd.2.2.2.1, by rw [hp _ (by omega) (by omega)]; exact rd.2.2.2.2.1, by rw [hp _ (by omega) (by omega)]; exact rd.2.2.2.2.2⟩
  have zi : ∀ x, gB G ≤ x → x < gB G + 11 → I4 x = fun _ => 0 := fun x q1 q2 => by rw [hi x (by omega)]; exact zi x q1 q2
  have n2 : LN G (K4, gB G + 251, s + 1605) I4 P4 (gB G + 11) := n2.keep (fun x q1 q2 => hk x (by omega)) (fun x q1 q2 => hi x (by omega)) (fun x q1 q2 => hp x (by omega) (by omega))
  have n3 : LN G (K4, gB G + 251, s + 1605) I4 P4 (gB G + 91) := n3.keep (fun x q1 q2 => hk x (by omega)) (fun x q1 q2 => hi x (by omega)) (fun x q1 q2 => hp x (by omega) (by omega))
  have fk : ∀ x, x < gB G → K4 x = K x := fun x hx => by rw [hk x (by omega)]; exact fk x hx
  have fi : ∀ x, x < gB G + 1 → I4 x = I x := fun x hx => by rw [hi x (by omega)]; exact fi x hx
  have fp : ∀ x, x < gB G → P4 x = P x := fun x hx => by rw [hp x (by omega) (by omega)]; exact fp x hx
  have fl : ∀ x, x < gB G + 1 → L4 x = L x := fun x hx => by rw [hl x (by omega)]; exact fl x hx
  have n4 := o5
  clear o3 o4 o5 hk hi hp hl hpo
  refine r_finP rfl (pc := 111) dX11_init_111 ffX11_47 (by first | assumption | (simp (disch := omega) only [uK_e, uK_n, hK]; done) | (simp (disch := omega) only [uK_e, uK_n, f0]; done)) (by omega) ?_
  refine r_aload_n (pc := 114) dX11_init_114 rfl ?_
  refine r_new (c := 5) (N := 5) (pc := 115) rfl rfl q84 q85 q8 dX11_init_115 (by first | omega | (dsimp only; omega)) (by first | omega | (dsimp only; omega)) ?_
  try dsimp only
  refine r_dup (pc := 118) dX11_init_118 rfl ?_
  refine r_aload_n (pc := 119) dX11_init_119 rfl ?_
  refine i_I1c (pc := 120) okX5_init rfl inX5_init q86 dX11_init_120 (by decide) (Nat.le_of_ble_eq_true rfl) (by first | omega | (dsimp only; omega)) (by first | omega | (dsimp only; omega)) (sX5_init (G := G) (l := gB G + 251) (by exact uK_e _ _ _) (by omega) rfl (by exact u1_r _ _ _)) (fun C5 I5 P5 L5 e1 e2 o3 o4 o5 => ?_)
  obtain ⟨K5, n5, s5⟩ := C5
  dsimp only at e1 e2 o3 o4
  have e1' : n5 = gB G + 331 := by omega
  have e2' : s5 = s + 2083 := by omega
  subst e1' e2'
  have hk : ∀ x, x < gB G + 251 → K5 x = K4 x := fun x hx => by rw [o3 x (by omega)]; simp (disch := omega) only [uK_n]
  have hi : ∀ x, x < gB G + 251 → I5 x = I4 x := fun x hx => by rw [(o4 x (by omega) (by omega)).1]; simp (disch := omega) only [u1_n]
  have hp : ∀ x, x < gB G + 251 → x ≠ gB G → P5 x = P4 x := fun x hx hxg => by rw [(o4 x (by omega) (by omega)).2.1]; simp (disch := omega) only [u1_n, u2_n]
  have hpo : P5 (gB G) = u2 P4 (gB G) 2 (some (gB G + 171)) (gB G) := by rw [(o4 _ (by omega) (by omega)).2.1]; simp (disch := omega) only [u1_n]
  have hl : ∀ x, x < gB G + 251 → L5 x = L4 x := fun x hx => by rw [(o4 x (by omega) (by omega)).2.2]; simp (disch := omega) only [u1_n]
  have g5 : K5 (gB G) = some (.inl 11) := by rw [hk _ (by omega)]; exact g4
  have k4 : K5 (gB G + 4) = some (.inr (0, 6)) := by rw [hk _ (by omega)]; exact k4
  have p4 : P5 (gB G) 4 = some (gB G + 1) := by rw [hpo, u2_k _ _ _ _ (by decide)]; exact p4
  have p6 : P5 (gB G) 6 = some (gB G + 4) := by rw [hpo, u2_k _ _ _ _ (by decide)]; exact p6
  have w0 : P5 (gB G) 0 = some (gB G + 11) := by rw [hpo, u2_k _ _ _ _ (by decide)]; exact w0
  have w1 : P5 (gB G) 1 = some (gB G + 91) := by rw [hpo, u2_k _ _ _ _ (by decide)]; exact w1
  have w2 : P5 (gB G) 2 = some (gB G + 171) := by rw [hpo]; exact u2_s _ _ _ _
  have kd : KindL G (K5, gB G + 331, s + 2083) P5 := ⟨(hk _ (by omega)).trans kd.1, fun k hk5 => ⟨by rw [hp _ (by omega) (by omega)]; exact (kd.2 k hk5).1, (hk _ (by omega)).trans (kd.2 k hk5).2⟩⟩
  have rd : ReadL G (K5, gB G + 331, s + 2083) P5 (gB G + 1) := ⟨rd.1, (hk _ (by omega)).trans rd.2.1, (hk _ (by omega)).trans rd.2.2.1, (hk _ (by omega)).trans rd.2.2.2.1, by rw [hp _ (by omega) (by omega)]; exact rd.2.2.2.2.1, by rw [hp _ (by omega) (by omega)]; exact rd.2.2.2.2.2⟩
  have zi : ∀ x, gB G ≤ x → x < gB G + 11 → I5 x = fun _ => 0 := fun x q1 q2 => by rw [hi x (by omega)]; exact zi x q1 q2
  have n2 : LN G (K5, gB G + 331, s + 2083) I5 P5 (gB G + 11) := n2.keep (fun x q1 q2 => hk x (by omega)) (fun x q1 q2 => hi x (by omega)) (fun x q1 q2 => hp x (by omega) (by omega))
  have n3 : LN G (K5, gB G + 331, s + 2083) I5 P5 (gB G + 91) := n3.keep (fun x q1 q2 => hk x (by omega)) (fun x q1 q2 => hi x (by omega)) (fun x q1 q2 => hp x (by omega) (by omega))
  have n4 : LN G (K5, gB G + 331, s + 2083) I5 P5 (gB G + 171) := n4.keep (fun x q1 q2 => hk x (by omega)) (fun x q1 q2 => hi x (by omega)) (fun x q1 q2 => hp x (by omega) (by omega))
  have fk : ∀ x, x < gB G → K5 x = K x := fun x hx => by rw [hk x (by omega)]; exact fk x hx
  have fi : ∀ x, x < gB G + 1 → I5 x = I x := fun x hx => by rw [hi x (by omega)]; exact fi x hx
  have fp : ∀ x, x < gB G → P5 x = P x := fun x hx => by rw [hp x (by omega) (by omega)]; exact fp x hx
  have fl : ∀ x, x < gB G + 1 → L5 x = L x := fun x hx => by rw [hl x (by omega)]; exact fl x hx
  have n5 := o5
  clear o3 o4 o5 hk hi hp hl hpo
  refine r_finP rfl (pc := 123) dX11_init_123 ffX11_50 (by first | assumption | (simp (disch := omega) only [uK_e, uK_n, hK]; done) | (simp (disch := omega) only [uK_e, uK_n, f0]; done)) (by omega) ?_
  refine r_aload_n (pc := 126) dX11_init_126 rfl ?_
  refine r_new (c := 10) (N := 7) (pc := 127) rfl rfl q244 q245 q12 dX11_init_127 (by first | omega | (dsimp only; omega)) (by first | omega | (dsimp only; omega)) ?_
  try dsimp only
  refine r_dup (pc := 130) dX11_init_130 rfl ?_
  refine r_aload_n (pc := 131) dX11_init_131 rfl ?_
  refine i_I1c (pc := 132) okX10_init rfl inX10_init q246 dX11_init_132 (by decide) (Nat.le_of_ble_eq_true rfl) (by first | omega | (dsimp only; omega)) (by first | omega | (dsimp only; omega)) (sX10_init (G := G) (l := gB G + 331) (by exact uK_e _ _ _) (by omega) rfl (by exact u1_r _ _ _)) (fun C6 I6 P6 L6 e1 e2 o3 o4 o5 => ?_)
  obtain ⟨K6, n6, s6⟩ := C6
  dsimp only at e1 e2 o3 o4
  have e1' : n6 = gB G + 427 := by omega
  have e2' : s6 = s + 2722 := by omega
  subst e1' e2'
  have hk : ∀ x, x < gB G + 331 → K6 x = K5 x := fun x hx => by rw [o3 x (by omega)]; simp (disch := omega) only [uK_n]
  have hi : ∀ x, x < gB G + 331 → I6 x = I5 x := fun x hx => by rw [(o4 x (by omega) (by omega)).1]; simp (disch := omega) only [u1_n]
  have hp : ∀ x, x < gB G + 331 → x ≠ gB G → P6 x = P5 x := fun x hx hxg => by rw [(o4 x (by omega) (by omega)).2.1]; simp (disch := omega) only [u1_n, u2_n]
  have hpo : P6 (gB G) = u2 P5 (gB G) 3 (some (gB G + 251)) (gB G) := by rw [(o4 _ (by omega) (by omega)).2.1]; simp (disch := omega) only [u1_n]
  have hl : ∀ x, x < gB G + 331 → L6 x = L5 x := fun x hx => by rw [(o4 x (by omega) (by omega)).2.2]; simp (disch := omega) only [u1_n]
  have g6 : K6 (gB G) = some (.inl 11) := by rw [hk _ (by omega)]; exact g5
  have k4 : K6 (gB G + 4) = some (.inr (0, 6)) := by rw [hk _ (by omega)]; exact k4
  have p4 : P6 (gB G) 4 = some (gB G + 1) := by rw [hpo, u2_k _ _ _ _ (by decide)]; exact p4
  have p6 : P6 (gB G) 6 = some (gB G + 4) := by rw [hpo, u2_k _ _ _ _ (by decide)]; exact p6
  have w0 : P6 (gB G) 0 = some (gB G + 11) := by rw [hpo, u2_k _ _ _ _ (by decide)]; exact w0
  have w1 : P6 (gB G) 1 = some (gB G + 91) := by rw [hpo, u2_k _ _ _ _ (by decide)]; exact w1
  have w2 : P6 (gB G) 2 = some (gB G + 171) := by rw [hpo, u2_k _ _ _ _ (by decide)]; exact w2
  have w3 : P6 (gB G) 3 = some (gB G + 251) := by rw [hpo]; exact u2_s _ _ _ _
  have kd : KindL G (K6, gB G + 427, s + 2722) P6 := ⟨(hk _ (by omega)).trans kd.1, fun k hk5 => ⟨by rw [hp _ (by omega) (by omega)]; exact (kd.2 k hk5).1, (hk _ (by omega)).trans (kd.2 k hk5).2⟩⟩
  have rd : ReadL G (K6, gB G + 427, s + 2722) P6 (gB G + 1) := ⟨rd.1, (hk _ (by omega)).trans rd.2.1, (hk _ (by omega)).trans rd.2.2.1, (hk _ (by omega)).trans rd.2.2.2.1, by rw [hp _ (by omega) (by omega)]; exact rd.2.2.2.2.1, by rw [hp _ (by omega) (by omega)]; exact rd.2.2.2.2.2⟩
  have zi : ∀ x, gB G ≤ x → x < gB G + 11 → I6 x = fun _ => 0 := fun x q1 q2 => by rw [hi x (by omega)]; exact zi x q1 q2
  have n2 : LN G (K6, gB G + 427, s + 2722) I6 P6 (gB G + 11) := n2.keep (fun x q1 q2 => hk x (by omega)) (fun x q1 q2 => hi x (by omega)) (fun x q1 q2 => hp x (by omega) (by omega))
  have n3 : LN G (K6, gB G + 427, s + 2722) I6 P6 (gB G + 91) := n3.keep (fun x q1 q2 => hk x (by omega)) (fun x q1 q2 => hi x (by omega)) (fun x q1 q2 => hp x (by omega) (by omega))
  have n4 : LN G (K6, gB G + 427, s + 2722) I6 P6 (gB G + 171) := n4.keep (fun x q1 q2 => hk x (by omega)) (fun x q1 q2 => hi x (by omega)) (fun x q1 q2 => hp x (by omega) (by omega))
  have n5 : LN G (K6, gB G + 427, s + 2722) I6 P6 (gB G + 251) := n5.keep (fun x q1 q2 => hk x (by omega)) (fun x q1 q2 => hi x (by omega)) (fun x q1 q2 => hp x (by omega) (by omega))
  have fk : ∀ x, x < gB G → K6 x = K x := fun x hx => by rw [hk x (by omega)]; exact fk x hx
  have fi : ∀ x, x < gB G + 1 → I6 x = I x := fun x hx => by rw [hi x (by omega)]; exact fi x hx
  have fp : ∀ x, x < gB G → P6 x = P x := fun x hx => by rw [hp x (by omega) (by omega)]; exact fp x hx
  have fl : ∀ x, x < gB G + 1 → L6 x = L x := fun x hx => by rw [hl x (by omega)]; exact fl x hx
  have n6 := o5
  clear o3 o4 o5 hk hi hp hl hpo
  refine r_finP rfl (pc := 135) dX11_init_135 ffX11_56 (by first | assumption | (simp (disch := omega) only [uK_e, uK_n, hK]; done) | (simp (disch := omega) only [uK_e, uK_n, f0]; done)) (by omega) ?_
  refine r_aload_n (pc := 138) dX11_init_138 rfl ?_
  refine r_lconst (v := 1) (pc := 139) dX11_init_139 (by decide) ?_
  refine r_putL (pc := 140) dX11_init_140 fwX11_60 (by first | assumption | (simp (disch := omega) only [uK_e, uK_n, hK]; done) | (simp (disch := omega) only [uK_e, uK_n, f0]; done)) (by omega) ?_
  refine r_vret (pc := 143) dX11_init_143 rfl ?_
  have hp : ∀ x, x ≠ gB G → u2 P6 (gB G) 5 (some (gB G + 331)) x = P6 x := fun x hx => u2_n _ _ _ hx
  refine ⟨rfl, ⟨(by dsimp only; try omega), (by dsimp only; try omega)⟩, fun x hx => ?_, fun x hx hxa => ?_, ⟨g6, k4, ?_, ?_, ?_, ?_, ?_, u2_s _ _ _ _, ?_, ?_, ?_, ?_, ?_, ?_, ?_, ?_⟩, ?_, ?_, ?_, ?_, ?_, zi, ?_, u2_s _ _ _ _⟩
  · replace hx : x < gB G + 1 := hx
    by_cases hxg : x = gB G
    · rw [hxg]; exact g6.trans hK.symm
    · exact fk x (by omega)
  · replace hx : x < gB G + 1 := hx
    refine ⟨fi x hx, ?_, ?_⟩
    · rw [hp x hxa]; exact fp x (by omega)
    · rw [u2_n _ _ _ hxa]; exact fl x hx
  · rw [u2_k _ _ _ _ (by decide)]; exact w0
  · rw [u2_k _ _ _ _ (by decide)]; exact w1
  · rw [u2_k _ _ _ _ (by decide)]; exact w2
  · rw [u2_k _ _ _ _ (by decide)]; exact w3
  · rw [u2_k _ _ _ _ (by decide)]; exact p4
  · rw [u2_k _ _ _ _ (by decide)]; exact p6
  · exact ⟨rd.1, rd.2.1, rd.2.2.1, rd.2.2.2.1, by rw [hp _ (by omega)]; exact rd.2.2.2.2.1, by rw [hp _ (by omega)]; exact rd.2.2.2.2.2⟩
  · exact (n2.keep (C1 := (K6, gB G + 427, s + 2722)) (I1 := I6) (P1 := u2 P6 (gB G) 5 (some (gB G + 331))) (fun _ _ _ => rfl) (fun _ _ _ => rfl) (fun x q1 q2 => hp x (by omega))).1
  · exact (n3.keep (C1 := (K6, gB G + 427, s + 2722)) (I1 := I6) (P1 := u2 P6 (gB G) 5 (some (gB G + 331))) (fun _ _ _ => rfl) (fun _ _ _ => rfl) (fun x q1 q2 => hp x (by omega))).1
  · exact (n4.keep (C1 := (K6, gB G + 427, s + 2722)) (I1 := I6) (P1 := u2 P6 (gB G) 5 (some (gB G + 331))) (fun _ _ _ => rfl) (fun _ _ _ => rfl) (fun x q1 q2 => hp x (by omega))).1
  · exact (n5.keep (C1 := (K6, gB G + 427, s + 2722)) (I1 := I6) (P1 := u2 P6 (gB G) 5 (some (gB G + 331))) (fun _ _ _ => rfl) (fun _ _ _ => rfl) (fun x q1 q2 => hp x (by omega))).1
  · exact (n6.keep (C1 := (K6, gB G + 427, s + 2722)) (I1 := I6) (P1 := u2 P6 (gB G) 5 (some (gB G + 331))) (fun _ _ _ => rfl) (fun _ _ _ => rfl) (fun x q1 q2 => hp x (by omega))).1
  · exact ⟨kd.1, fun k hk5 => ⟨by rw [hp _ (by omega)]; exact (kd.2 k hk5).1, (kd.2 k hk5).2⟩⟩
  · exact n2.keep (fun _ _ _ => rfl) (fun _ _ _ => rfl) (fun x q1 q2 => hp x (by omega))
  · exact n3.keep (fun _ _ _ => rfl) (fun _ _ _ => rfl) (fun x q1 q2 => hp x (by omega))
  · exact n4.keep (fun _ _ _ => rfl) (fun _ _ _ => rfl) (fun x q1 q2 => hp x (by omega))
  · exact n5.keep (fun _ _ _ => rfl) (fun _ _ _ => rfl) (fun x q1 q2 => hp x (by omega))
  · exact n6.keep (fun _ _ _ => rfl) (fun _ _ _ => rfl) (fun x q1 q2 => hp x (by omega))
  · rw [u2_k _ _ _ _ (by decide), fl _ (by omega), hL]
end INIT11


