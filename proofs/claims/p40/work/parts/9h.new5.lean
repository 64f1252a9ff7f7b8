/-! the trials' constructor -/
section INIT10
variable {G : WG} {C : CF} {I : MI} {P : MP} {L : ML}
def TN (G : WG) (C : CF) (I : MI) (P : MP) (l : Nat) : Prop := TrialsL G C P l ∧ (∀ x, l ≤ x → x < l + 6 → I x = fun _ => 0) ∧ FN G C I P (l + 6) ∧ ∀ i, i < 8 → FN G C I P (l + 16 + 10 * i)
theorem sX10_init {l : Nat} (hK : C.1 l = some (.inl 10)) (hB : gB G + 6 ≤ l) (hC : C.2.1 = l + 1) (hI : I l = fun _ => 0) : Sp G yX10_init cX10_init 3 none 3 95 632 [.ref l, .ref (gB G + 5)] C I P L (NC l 95 632 C I P L (fun C1 I1 P1 L1 => TN G C1 I1 P1 l)) := by
  obtain ⟨K, n, s⟩ := C
  replace hC : n = l + 1 := hC
  replace hK : K l = some (.inl 10) := hK
  subst hC
  refine en_C (by decide +kernel) (Nat.le_of_ble_eq_true rfl) ?_
  change Wd _ _ _ _ _ _ _ _ 0 [some _, some _, none] [] _ _ _ _
  have loop : ∀ (n i : Nat) (K1 : Nat → Option Kd) (I1 : MI) (P1 : MP) (L1 : ML), i + n = 8 → (∀ x, x < l + 1 → K1 x = K x) → (∀ x, x < l → I1 x = I x ∧ P1 x = P x ∧ L1 x = L x) → K1 l = some (.inl 10) → K1 (l + 1) = some (.inr (2, 8)) → (K1 (l + 2) = some (.inr (0, 5)) ∧ K1 (l + 3) = some (.inr (0, 5)) ∧ K1 (l + 4) = some (.inr (0, 64)) ∧ K1 (l + 5) = some (.inr (0, 64))) → P1 l 0 = some (l + 1) → (P1 l 1 = some (l + 2) ∧ P1 l 2 = some (l + 3) ∧ P1 l 3 = some (l + 4) ∧ P1 l 4 = some (l + 5) ∧ P1 l 5 = some (l + 6)) → (∀ x, l ≤ x → x < l + 6 → I1 x = fun _ => 0) → FN G (K1, l + 16 + 10 * i, s + 200 + 54 * i) I1 P1 (l + 6) → (∀ f, f < i → FN G (K1, l + 16 + 10 * i, s + 200 + 54 * i) I1 P1 (l + 16 + 10 * f) ∧ P1 (l + 1) f = some (l + 16 + 10 * f)) → Wd G yX10_init cX10_init 3 none 3 (l + 1 + 95, s + 632) (NC l 95 632 (K, l + 1, s) I P L (fun C1 I1 P1 L1 => TN G C1 I1 P1 l)) 57 [some (.ref l), some (.ref (gB G + 5)), some (.int (zI (i : Int)))] [] (K1, l + 16 + 10 * i, s + 200 + 54 * i) I1 P1 L1 := by
    intro n
    induction n with
    | zero =>
      intro i K1 I1 P1 L1 hi hk hf k0 k9 kr p0 pr hz hn hr
      have hi6 : i = 8 := by omega
      subst hi6
      refine r_iload_n (pc := 57) dX10_init_57 rfl ?_
      refine r_aload_n (pc := 58) dX10_init_58 rfl ?_
      refine r_getA (pc := 59) dX10_init_59 frX10_11 (by first | exact k0 | exact k9) (by assumption) ?_
      refine r_alen (pc := 62) dX10_init_62 (by first | exact k0 | exact k9) ?_
      refine r_icmp_ge (pc := 63) 86 dX10_init_63 (by decide) (by omega) (by omega) (fun h63 => ?_) (fun h63 => ?_)
      · skip
        refine r_vret (pc := 86) dX10_init_86 rfl ?_
        refine ⟨rfl, ⟨(by dsimp only; try omega), (by dsimp only; try omega)⟩, fun x hx => ?_, fun x hx hxa => ?_, ⟨hB, k0, k9, kr.1, kr.2.1, kr.2.2.1, kr.2.2.2, p0, pr.1, pr.2.1, pr.2.2.1, pr.2.2.2.1, pr.2.2.2.2, hn.1, fun f hf => ⟨(hr f hf).1.1, (hr f hf).2⟩⟩, hz, hn, fun f hf => (hr f hf).1⟩
        · replace hx : x < l + 1 := hx
          exact hk x hx
        · replace hx : x < l + 1 := hx
          exact hf x (by omega)
      · exact absurd h63 (by omega)
    | succ n ih =>
      intro i K1 I1 P1 L1 hi hk hf k0 k9 kr p0 pr hz hn hr
      refine r_iload_n (pc := 57) dX10_init_57 rfl ?_
      refine r_aload_n (pc := 58) dX10_init_58 rfl ?_
      refine r_getA (pc := 59) dX10_init_59 frX10_11 (by first | exact k0 | exact k9 | exact q9 | exact e5.1.2.1) (by assumption) ?_
      refine r_alen (pc := 62) dX10_init_62 (by first | exact k0 | exact k9 | exact q9 | exact e5.1.2.1) ?_
      refine r_icmp_ge (pc := 63) 86 dX10_init_63 (by decide) (by omega) (by omega) (fun h63 => ?_) (fun h63 => ?_)
      · exact absurd h63 (by omega)
      · skip
        refine r_aload_n (pc := 66) dX10_init_66 rfl ?_
        refine r_getA (pc := 67) dX10_init_67 frX10_11 (by first | exact k0 | exact k9 | exact q9 | exact e5.1.2.1) (by assumption) ?_
        refine r_iload_n (pc := 70) dX10_init_70 rfl ?_
        refine r_new (c := 2) (N := 13) (pc := 71) rfl rfl q250 q135 q10 dX10_init_71 (by first | omega | (dsimp only; omega)) (by first | omega | (dsimp only; omega)) ?_
        try dsimp only
        refine r_dup (pc := 74) dX10_init_74 rfl ?_
        refine r_aload_n (pc := 75) dX10_init_75 rfl ?_
        refine i_I1c (pc := 76) okX2_init rfl inX2_init q251 dX10_init_76 (by decide) (Nat.le_of_ble_eq_true rfl) (by first | omega | (dsimp only; omega)) (by first | omega | (dsimp only; omega)) (sX2_init (G := G) (a := l + 16 + 10 * i) (by exact uK_e _ _ _) (by omega) rfl (by exact u1_r _ _ _)) (fun C2 I2 P2 L2 e1 e2 e3 e4 e5 => ?_)
        obtain ⟨K2, n2, s2⟩ := C2
        dsimp only at e1 e2 e3 e4
        have e1' : n2 = l + 16 + 10 * (i + 1) := by omega
        have e2' : s2 = s + 200 + 54 * (i + 1) := by omega
        subst e1' e2'
        have hk2 : ∀ x, x < l + 16 + 10 * i → K2 x = K1 x := fun x hx => by rw [e3 x (by omega), uK_n _ _ (by omega)]
        have hi2 : ∀ x, x < l + 16 + 10 * i → I2 x = I1 x := fun x hx => by rw [(e4 x (by omega) (by omega)).1, u1_n _ _ (by omega)]
        have hp2 : ∀ x, x < l + 16 + 10 * i → P2 x = P1 x := fun x hx => by rw [(e4 x (by omega) (by omega)).2.1, u1_n _ _ (by omega)]
        have hl2 : ∀ x, x < l + 16 + 10 * i → L2 x = L1 x := fun x hx => by rw [(e4 x (by omega) (by omega)).2.2, u1_n _ _ (by omega)]
        have q9 : K2 (l + 1) = some (.inr (2, 8)) := by rw [hk2 _ (by omega)]; exact k9
        refine r_aast (t := 2) (n := 8) (j := i) (cb := 2) (pc := 79) dX10_init_79 (by first | exact k0 | exact k9 | exact q9 | exact e5.1.2.1) rfl (by decide) (by omega) (by omega) (by omega) (by omega) (by first | exact k0 | exact k9 | exact q9 | exact e5.1.2.1) rfl (Or.inl rfl) ?_
        refine r_iinc (pc := 80) dX10_init_80 rfl ?_
        refine r_goto (pc := 83) 57 dX10_init_83 (by decide) ?_
        have hp3 : ∀ x, x < l + 16 + 10 * i → x ≠ l + 1 → u2 P2 (l + 1) i (some (l + 16 + 10 * i)) x = P1 x := fun x hx h9 => by rw [u2_n _ _ _ h9]; exact hp2 x hx
        refine ih (i + 1) _ _ _ _ (by omega) (fun x hx => ?_) (fun x hx => ⟨?_, ?_, ?_⟩) ?_ q9 ?_ ?_ ?_ (fun x h1 h2 => ?_) (hn.keep (fun x h1 h2 => hk2 x (by omega)) (fun x h1 h2 => hi2 x (by omega)) (fun x h1 h2 => hp3 x (by omega) (by omega))) (fun f hf => ?_)
        · rw [hk2 x (by omega)]; exact hk x hx
        · rw [hi2 x (by omega)]; exact (hf x hx).1
        · rw [hp3 x (by omega) (by omega)]; exact (hf x hx).2.1
        · rw [hl2 x (by omega)]; exact (hf x hx).2.2
        · rw [hk2 _ (by omega)]; exact k0
        · rw [hk2 _ (by omega), hk2 _ (by omega), hk2 _ (by omega), hk2 _ (by omega)]; exact kr
        · rw [hp3 _ (by omega) (by omega)]; exact p0
        · rw [hp3 _ (by omega) (by omega)]; exact pr
        · rw [hi2 x (by omega)]; exact hz x h1 h2
        · by_cases hfi : f = i
          · subst hfi
            exact ⟨e5.keep (fun _ _ _ => rfl) (fun _ _ _ => rfl) (fun x h1 h2 => u2_n _ _ _ (by omega)), u2_s _ _ _ _⟩
          · have hr := hr f (by omega)
            exact ⟨hr.1.keep (fun x h1 h2 => hk2 x (by omega)) (fun x h1 h2 => hi2 x (by omega)) (fun x h1 h2 => hp3 x (by omega) (by omega)), by rw [u2_k _ _ _ _ hfi, hp2 _ (by omega)]; exact hr.2⟩
  refine r_aload_n (pc := 0) dX10_init_0 rfl ?_
  refine r_obj (pc := 1) q249 dX10_init_1 (by decide) (Nat.le_of_ble_eq_true rfl) ?_
  refine r_aload_n (pc := 4) dX10_init_4 rfl ?_
  refine r_bipush (pc := 5) dX10_init_5 (by decide) ?_
  refine r_anew (t := 2) (N := 8) (pc := 7) rfl (by decide) q250 (by decide) dX10_init_7 rfl (by decide) (by first | omega | (dsimp only; omega)) (by first | omega | (dsimp only; omega)) ?_
  try dsimp only
  refine r_finA rfl (pc := 10) dX10_init_10 ffX10_11 (by first | assumption | (simp (disch := omega) only [uK_e, uK_n, hK]; done)) (by omega) ?_
  refine r_aload_n (pc := 13) dX10_init_13 rfl ?_
  refine r_iconst (pc := 14) dX10_init_14 ?_
  refine r_newI (N := 5) (pc := 15) dX10_init_15 rfl (by decide) (by first | omega | (dsimp only; omega)) (by first | omega | (dsimp only; omega)) ?_
  try dsimp only
  refine r_finA rfl (pc := 17) dX10_init_17 ffX10_17 (by first | assumption | (simp (disch := omega) only [uK_e, uK_n, hK]; done)) (by omega) ?_
  refine r_aload_n (pc := 20) dX10_init_20 rfl ?_
  refine r_iconst (pc := 21) dX10_init_21 ?_
  refine r_newI (N := 5) (pc := 22) dX10_init_22 rfl (by decide) (by first | omega | (dsimp only; omega)) (by first | omega | (dsimp only; omega)) ?_
  try dsimp only
  refine r_finA rfl (pc := 24) dX10_init_24 ffX10_21 (by first | assumption | (simp (disch := omega) only [uK_e, uK_n, hK]; done)) (by omega) ?_
  refine r_aload_n (pc := 27) dX10_init_27 rfl ?_
  refine r_bipush (pc := 28) dX10_init_28 (by decide) ?_
  refine r_newI (N := 64) (pc := 30) dX10_init_30 rfl (by decide) (by first | omega | (dsimp only; omega)) (by first | omega | (dsimp only; omega)) ?_
  try dsimp only
  refine r_finA rfl (pc := 32) dX10_init_32 ffX10_24 (by first | assumption | (simp (disch := omega) only [uK_e, uK_n, hK]; done)) (by omega) ?_
  refine r_aload_n (pc := 35) dX10_init_35 rfl ?_
  refine r_bipush (pc := 36) dX10_init_36 (by decide) ?_
  refine r_newI (N := 64) (pc := 38) dX10_init_38 rfl (by decide) (by first | omega | (dsimp only; omega)) (by first | omega | (dsimp only; omega)) ?_
  try dsimp only
  refine r_finA rfl (pc := 40) dX10_init_40 ffX10_27 (by first | assumption | (simp (disch := omega) only [uK_e, uK_n, hK]; done)) (by omega) ?_
  refine r_aload_n (pc := 43) dX10_init_43 rfl ?_
  refine r_new (c := 2) (N := 13) (pc := 44) rfl rfl q250 q135 q10 dX10_init_44 (by first | omega | (dsimp only; omega)) (by first | omega | (dsimp only; omega)) ?_
  try dsimp only
  refine r_dup (pc := 47) dX10_init_47 rfl ?_
  refine r_aload_n (pc := 48) dX10_init_48 rfl ?_
  refine i_I1c (pc := 49) okX2_init rfl inX2_init q251 dX10_init_49 (by decide) (Nat.le_of_ble_eq_true rfl) (by first | omega | (dsimp only; omega)) (by first | omega | (dsimp only; omega)) (sX2_init (G := G) (a := l + 6) (by exact uK_e _ _ _) (by omega) rfl (by exact u1_r _ _ _)) (fun C2 I2 P2 L2 o1 o2 o3 o4 o5 => ?_)
  obtain ⟨K2, n2, s2⟩ := C2
  dsimp only at o1 o2 o3 o4
  have o1' : n2 = l + 16 + 10 * 0 := by omega
  have o2' : s2 = s + 200 + 54 * 0 := by omega
  subst o1' o2'
  have g0 : K2 l = some (.inl 10) := by rw [o3 _ (by omega)]; simp (disch := omega) only [uK_n, hK]
  refine r_finP rfl (pc := 52) dX10_init_52 ffX10_33 (by first | assumption | (simp (disch := omega) only [uK_e, uK_n, hK]; done)) (by omega) ?_
  refine r_iconst (pc := 55) dX10_init_55 ?_
  refine r_istore_n (pc := 56) dX10_init_56 (by decide) ?_
  have hk2 : ∀ x, x < l + 1 → K2 x = K x := fun x hx => by rw [o3 x (by omega)]; simp (disch := omega) only [uK_n]
  have hi2 : ∀ x, x < l + 1 → I2 x = I x := fun x hx => by rw [(o4 x (by omega) (by omega)).1]; simp (disch := omega) only [u1_n]
  have hp2 : ∀ x, x < l → P2 x = P x := fun x hx => by rw [(o4 x (by omega) (by omega)).2.1]; simp (disch := omega) only [u1_n, u2_n]
  have hl2 : ∀ x, x < l + 1 → L2 x = L x := fun x hx => by rw [(o4 x (by omega) (by omega)).2.2]; simp (disch := omega) only [u1_n]
  have pl := (o4 l (by omega) (by omega)).2.1
  refine loop 8 0 _ _ _ _ (by omega) hk2 (fun x hx => ⟨hi2 x (by omega), ?_, hl2 x (by omega)⟩) g0 ?_ ⟨?_, ?_, ?_, ?_⟩ ?_ ⟨?_, ?_, ?_, ?_, u2_s _ _ _ _⟩ (fun x h1 h2 => ?_) (o5.keep (fun _ _ _ => rfl) (fun _ _ _ => rfl) (fun x h1 h2 => u2_n _ _ _ (by omega))) (fun f hf => absurd hf (by omega))
  · rw [u2_n _ _ _ (by omega)]; exact hp2 x hx
  · rw [o3 _ (by omega)]; simp (disch := omega) only [uK_n, uK_e]
  · rw [o3 _ (by omega)]; simp (disch := omega) only [uK_n, uK_e]
  · rw [o3 _ (by omega)]; simp (disch := omega) only [uK_n, uK_e]
  · rw [o3 _ (by omega)]; simp (disch := omega) only [uK_n, uK_e]
  · rw [o3 _ (by omega)]; simp (disch := omega) only [uK_n, uK_e]
  · rw [u2_k _ _ _ _ (by decide), pl]; simp (disch := omega) only [u1_n, u2_n, u2_k, u2_s]
  · rw [u2_k _ _ _ _ (by decide), pl]; simp (disch := omega) only [u1_n, u2_n, u2_k, u2_s]
  · rw [u2_k _ _ _ _ (by decide), pl]; simp (disch := omega) only [u1_n, u2_n, u2_k, u2_s]
  · rw [u2_k _ _ _ _ (by decide), pl]; simp (disch := omega) only [u1_n, u2_n, u2_k, u2_s]
  · rw [u2_k _ _ _ _ (by decide), pl]; simp (disch := omega) only [u1_n, u2_n, u2_k, u2_s]
  · have h3 : x = l ∨ x = l + 1 ∨ x = l + 2 ∨ x = l + 3 ∨ x = l + 4 ∨ x = l + 5 := by omega
    rcases h3 with rfl | rfl | rfl | rfl | rfl | rfl
    · rw [hi2 _ (by omega)]; exact hI
    · rw [(o4 _ (by omega) (by omega)).1]; simp (disch := omega) only [u1_r, u1_n]
    · rw [(o4 _ (by omega) (by omega)).1]; simp (disch := omega) only [u1_r, u1_n]
    · rw [(o4 _ (by omega) (by omega)).1]; simp (disch := omega) only [u1_r, u1_n]
    · rw [(o4 _ (by omega) (by omega)).1]; simp (disch := omega) only [u1_r, u1_n]
    · rw [(o4 _ (by omega) (by omega)).1]; simp (disch := omega) only [u1_r, u1_n]
end INIT10


