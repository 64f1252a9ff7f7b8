/-! the constructors of a lump and of the trials -/
section INIT5
variable {G : WG} {C : CF} {I : MI} {P : MP} {L : ML}
theorem FN.keep {C1 : CF} {I1 : MI} {P1 : MP} {a : Nat} (h : FN G C I P a) (hc : ∀ x, a ≤ x → x < a + 10 → C1.1 x = C.1 x) (hi : ∀ x, a ≤ x → x < a + 10 → I1 x = I x) (hp : ∀ x, a ≤ x → x < a + 10 → P1 x = P x) : FN G C1 I1 P1 a := by
  obtain ⟨⟨b0, b1, b2, b3, b4, b5, b6, b7, b8, b9⟩, h2, h3, h4⟩ := h
  refine ⟨⟨b0, ?_, ?_, ?_, ?_, ?_, ?_, ?_, ?_, fun f hf => ⟨?_, ?_⟩⟩, fun f hf => ?_, ?_, fun x q1 q2 => ?_⟩
  · rw [hc _ (by omega) (by omega)]; exact b1
  · rw [hc _ (by omega) (by omega)]; exact b2
  · rw [hc _ (by omega) (by omega)]; exact b3
  · rw [hc _ (by omega) (by omega)]; exact b4
  · rw [hp _ (by omega) (by omega)]; exact b5
  · rw [hp _ (by omega) (by omega)]; exact b6
  · rw [hp _ (by omega) (by omega)]; exact b7
  · rw [hp _ (by omega) (by omega)]; exact b8
  · rw [hc _ (by omega) (by omega)]; exact (b9 f hf).1
  · rw [hp _ (by omega) (by omega)]; exact (b9 f hf).2
  · rw [hp _ (by omega) (by omega)]; exact h2 f hf
  · rw [hi _ (by omega) (by omega)]; exact h3
  · rw [hi _ (by omega) (by omega)]; exact h4 x q1 q2
theorem BooksL.keep {C1 : CF} {P1 : MP} {b : Nat} (h : BooksL G C P b) (hc : ∀ x, b ≤ x → x < b + 8 → C1.1 x = C.1 x) (hp : P1 b = P b) : BooksL G C1 P1 b := by
  obtain ⟨b0, b1, b2, b3, b4, b5, b6, b7, b8, b9⟩ := h
  rw [← hp] at b9
  exact ⟨b0, by rw [hc _ (by omega) (by omega)]; exact b1, by rw [hc _ (by omega) (by omega)]; exact b2, by rw [hc _ (by omega) (by omega)]; exact b3, by rw [hc _ (by omega) (by omega)]; exact b4, by rw [hc _ (by omega) (by omega)]; exact b5, by rw [hc _ (by omega) (by omega)]; exact b6, by rw [hc _ (by omega) (by omega)]; exact b7, by rw [hc _ (by omega) (by omega)]; exact b8, b9⟩
def LN (G : WG) (C : CF) (I : MI) (P : MP) (l : Nat) : Prop := LumpL G C P l ∧ (∀ x, l ≤ x → x < l + 10 → I x = fun _ => 0) ∧ FN G C I P (l + 10) ∧ ∀ i, i < 6 → FN G C I P (l + 20 + 10 * i)
theorem sX5_init {l : Nat} (hK : C.1 l = some (.inl 5)) (hB : gB G + 6 ≤ l) (hC : C.2.1 = l + 1) (hI : I l = fun _ => 0) : Sp G yX5_init cX5_init 3 none 3 79 473 [.ref l, .ref (gB G + 5)] C I P L (NC l 79 473 C I P L (fun C1 I1 P1 L1 => LN G C1 I1 P1 l)) := by
  obtain ⟨K, n, s⟩ := C
  replace hC : n = l + 1 := hC
  replace hK : K l = some (.inl 5) := hK
  subst hC
  refine en_C (by decide +kernel) (Nat.le_of_ble_eq_true rfl) ?_
  change Wd _ _ _ _ _ _ _ _ 0 [some _, some _, none] [] _ _ _ _
  have loop : ∀ (n i : Nat) (K1 : Nat → Option Kd) (I1 : MI) (P1 : MP) (L1 : ML), i + n = 6 → (∀ x, x < l + 1 → K1 x = K x) → (∀ x, x < l → I1 x = I x ∧ P1 x = P x ∧ L1 x = L x) → K1 l = some (.inl 5) → K1 (l + 9) = some (.inr (2, 6)) → P1 l 0 = some (l + 10) → P1 l 1 = some (l + 1) → P1 l 2 = some (l + 9) → BooksL G (K1, l + 20 + 10 * i, s + 149 + 54 * i) P1 (l + 1) → (∀ x, l ≤ x → x < l + 10 → I1 x = fun _ => 0) → FN G (K1, l + 20 + 10 * i, s + 149 + 54 * i) I1 P1 (l + 10) → (∀ f, f < i → FN G (K1, l + 20 + 10 * i, s + 149 + 54 * i) I1 P1 (l + 20 + 10 * f) ∧ P1 (l + 9) f = some (l + 20 + 10 * f)) → Wd G yX5_init cX5_init 3 none 3 (l + 1 + 79, s + 473) (NC l 79 473 (K, l + 1, s) I P L (fun C1 I1 P1 L1 => LN G C1 I1 P1 l)) 38 [some (.ref l), some (.ref (gB G + 5)), some (.int (zI (i : Int)))] [] (K1, l + 20 + 10 * i, s + 149 + 54 * i) I1 P1 L1 := by
    intro n
    induction n with
    | zero =>
      intro i K1 I1 P1 L1 hi hk hf k0 k9 p0 p1 p2 hb hz hn hr
      have hi6 : i = 6 := by omega
      subst hi6
      refine r_iload_n (pc := 38) dX5_init_38 rfl ?_
      refine r_aload_n (pc := 39) dX5_init_39 rfl ?_
      refine r_getA (pc := 40) dX5_init_40 frX5_20 (by first | exact k0 | exact k9) (by assumption) ?_
      refine r_alen (pc := 43) dX5_init_43 (by first | exact k0 | exact k9) ?_
      refine r_icmp_ge (pc := 44) 67 dX5_init_44 (by decide) (by omega) (by omega) (fun h44 => ?_) (fun h44 => ?_)
      · skip
        refine r_vret (pc := 67) dX5_init_67 rfl ?_
        refine ⟨rfl, ⟨(by dsimp only; try omega), (by dsimp only; try omega)⟩, fun x hx => ?_, fun x hx hxa => ?_, ⟨hB, k0, k9, p0, p1, p2, hb, hn.1, fun f hf => ⟨(hr f hf).1.1, (hr f hf).2⟩⟩, hz, hn, fun f hf => (hr f hf).1⟩
        · replace hx : x < l + 1 := hx
          exact hk x hx
        · replace hx : x < l + 1 := hx
          exact hf x (by omega)
      · exact absurd h44 (by omega)
    | succ n ih =>
      intro i K1 I1 P1 L1 hi hk hf k0 k9 p0 p1 p2 hb hz hn hr
      refine r_iload_n (pc := 38) dX5_init_38 rfl ?_
      refine r_aload_n (pc := 39) dX5_init_39 rfl ?_
      refine r_getA (pc := 40) dX5_init_40 frX5_20 (by first | exact k0 | exact k9 | exact q9 | exact e5.1.2.1) (by assumption) ?_
      refine r_alen (pc := 43) dX5_init_43 (by first | exact k0 | exact k9 | exact q9 | exact e5.1.2.1) ?_
      refine r_icmp_ge (pc := 44) 67 dX5_init_44 (by decide) (by omega) (by omega) (fun h44 => ?_) (fun h44 => ?_)
      · exact absurd h44 (by omega)
      · skip
        refine r_aload_n (pc := 47) dX5_init_47 rfl ?_
        refine r_getA (pc := 48) dX5_init_48 frX5_20 (by first | exact k0 | exact k9 | exact q9 | exact e5.1.2.1) (by assumption) ?_
        refine r_iload_n (pc := 51) dX5_init_51 rfl ?_
        refine r_new (c := 2) (N := 13) (pc := 52) rfl rfl q133 q135 q10 dX5_init_52 (by first | omega | (dsimp only; omega)) (by first | omega | (dsimp only; omega)) ?_
        try dsimp only
        refine r_dup (pc := 55) dX5_init_55 rfl ?_
        refine r_aload_n (pc := 56) dX5_init_56 rfl ?_
        refine i_I1c (pc := 57) okX2_init rfl inX2_init q136 dX5_init_57 (by decide) (Nat.le_of_ble_eq_true rfl) (by first | omega | (dsimp only; omega)) (by first | omega | (dsimp only; omega)) (sX2_init (G := G) (a := l + 20 + 10 * i) (by exact uK_e _ _ _) (by omega) rfl (by exact u1_r _ _ _)) (fun C2 I2 P2 L2 e1 e2 e3 e4 e5 => ?_)
        obtain ⟨K2, n2, s2⟩ := C2
        dsimp only at e1 e2 e3 e4
        have e1' : n2 = l + 20 + 10 * (i + 1) := by omega
        have e2' : s2 = s + 149 + 54 * (i + 1) := by omega
        subst e1' e2'
        have hk2 : ∀ x, x < l + 20 + 10 * i → K2 x = K1 x := fun x hx => by rw [e3 x (by omega), uK_n _ _ (by omega)]
        have hi2 : ∀ x, x < l + 20 + 10 * i → I2 x = I1 x := fun x hx => by rw [(e4 x (by omega) (by omega)).1, u1_n _ _ (by omega)]
        have hp2 : ∀ x, x < l + 20 + 10 * i → P2 x = P1 x := fun x hx => by rw [(e4 x (by omega) (by omega)).2.1, u1_n _ _ (by omega)]
        have hl2 : ∀ x, x < l + 20 + 10 * i → L2 x = L1 x := fun x hx => by rw [(e4 x (by omega) (by omega)).2.2, u1_n _ _ (by omega)]
        have q9 : K2 (l + 9) = some (.inr (2, 6)) := by rw [hk2 _ (by omega)]; exact k9
        refine r_aast (t := 2) (n := 6) (j := i) (cb := 2) (pc := 60) dX5_init_60 (by first | exact k0 | exact k9 | exact q9 | exact e5.1.2.1) rfl (by decide) (by omega) (by omega) (by omega) (by omega) (by first | exact k0 | exact k9 | exact q9 | exact e5.1.2.1) rfl (Or.inl rfl) ?_
        refine r_iinc (pc := 61) dX5_init_61 rfl ?_
        refine r_goto (pc := 64) 38 dX5_init_64 (by decide) ?_
        have hp3 : ∀ x, x < l + 20 + 10 * i → x ≠ l + 9 → u2 P2 (l + 9) i (some (l + 20 + 10 * i)) x = P1 x := fun x hx h9 => by rw [u2_n _ _ _ h9]; exact hp2 x hx
        refine ih (i + 1) _ _ _ _ (by omega) (fun x hx => ?_) (fun x hx => ⟨?_, ?_, ?_⟩) ?_ q9 ?_ ?_ ?_ (hb.keep (fun x h1 h2 => hk2 x (by omega)) (hp3 _ (by omega) (by omega))) (fun x h1 h2 => ?_) (hn.keep (fun x h1 h2 => hk2 x (by omega)) (fun x h1 h2 => hi2 x (by omega)) (fun x h1 h2 => hp3 x (by omega) (by omega))) (fun f hf => ?_)
        · rw [hk2 x (by omega)]; exact hk x hx
        · rw [hi2 x (by omega)]; exact (hf x hx).1
        · rw [hp3 x (by omega) (by omega)]; exact (hf x hx).2.1
        · rw [hl2 x (by omega)]; exact (hf x hx).2.2
        · rw [hk2 _ (by omega)]; exact k0
        · rw [hp3 _ (by omega) (by omega)]; exact p0
        · rw [hp3 _ (by omega) (by omega)]; exact p1
        · rw [hp3 _ (by omega) (by omega)]; exact p2
        · rw [hi2 x (by omega)]; exact hz x h1 h2
        · by_cases hfi : f = i
          · subst hfi
            exact ⟨e5.keep (fun _ _ _ => rfl) (fun _ _ _ => rfl) (fun x h1 h2 => u2_n _ _ _ (by omega)), u2_s _ _ _ _⟩
          · have hr := hr f (by omega)
            exact ⟨hr.1.keep (fun x h1 h2 => hk2 x (by omega)) (fun x h1 h2 => hi2 x (by omega)) (fun x h1 h2 => hp3 x (by omega) (by omega)), by rw [u2_k _ _ _ _ hfi, hp2 _ (by omega)]; exact hr.2⟩
  refine r_aload_n (pc := 0) dX5_init_0 rfl ?_
  refine r_obj (pc := 1) q89 dX5_init_1 (by decide) (Nat.le_of_ble_eq_true rfl) ?_
  refine r_aload_n (pc := 4) dX5_init_4 rfl ?_
  refine r_new (c := 0) (N := 11) (pc := 5) rfl rfl q90 q91 q9 dX5_init_5 (by first | omega | (dsimp only; omega)) (by first | omega | (dsimp only; omega)) ?_
  try dsimp only
  refine r_dup (pc := 8) dX5_init_8 rfl ?_
  refine i_IN0c (pc := 9) okX0_init rfl inX0_init nwX5_11 dX5_init_9 (by decide) (Nat.le_of_ble_eq_true rfl) (by first | omega | (dsimp only; omega)) (by first | omega | (dsimp only; omega)) (sX0_init (G := G) (a := l + 1) (by exact uK_e _ _ _) (by omega) rfl) (fun C1 I1 P1 L1 e1 e2 e3 e4 e5 => ?_)
  obtain ⟨K1, n1, s1⟩ := C1
  dsimp only at e1 e2 e3 e4
  have e1' : n1 = l + 9 := by omega
  have e2' : s1 = s + 89 := by omega
  subst e1' e2'
  have f0 : K1 l = some (.inl 5) := by rw [e3 _ (by omega), uK_n _ _ (by omega)]; exact hK
  refine r_finP rfl (pc := 12) dX5_init_12 ffX5_12 (by first | assumption | (simp (disch := omega) only [uK_e, uK_n, hK]; done) | (simp (disch := omega) only [uK_e, uK_n, f0]; done)) (by omega) ?_
  refine r_aload_n (pc := 15) dX5_init_15 rfl ?_
  refine r_bipush (pc := 16) dX5_init_16 (by decide) ?_
  refine r_anew (t := 2) (N := 6) (pc := 18) rfl (by decide) q133 (by decide) dX5_init_18 rfl (by decide) (by first | omega | (dsimp only; omega)) (by first | omega | (dsimp only; omega)) ?_
  try dsimp only
  refine r_finA rfl (pc := 21) dX5_init_21 ffX5_20 (by first | assumption | (simp (disch := omega) only [uK_e, uK_n, hK]; done) | (simp (disch := omega) only [uK_e, uK_n, f0]; done)) (by omega) ?_
  refine r_aload_n (pc := 24) dX5_init_24 rfl ?_
  refine r_new (c := 2) (N := 13) (pc := 25) rfl rfl q133 q135 q10 dX5_init_25 (by first | omega | (dsimp only; omega)) (by first | omega | (dsimp only; omega)) ?_
  try dsimp only
  refine r_dup (pc := 28) dX5_init_28 rfl ?_
  refine r_aload_n (pc := 29) dX5_init_29 rfl ?_
  refine i_I1c (pc := 30) okX2_init rfl inX2_init q136 dX5_init_30 (by decide) (Nat.le_of_ble_eq_true rfl) (by first | omega | (dsimp only; omega)) (by first | omega | (dsimp only; omega)) (sX2_init (G := G) (a := l + 10) (by exact uK_e _ _ _) (by omega) rfl (by exact u1_r _ _ _)) (fun C2 I2 P2 L2 o1 o2 o3 o4 o5 => ?_)
  obtain ⟨K2, n2, s2⟩ := C2
  dsimp only at o1 o2 o3 o4
  have o1' : n2 = l + 20 + 10 * 0 := by omega
  have o2' : s2 = s + 149 + 54 * 0 := by omega
  subst o1' o2'
  have g0 : K2 l = some (.inl 5) := by rw [o3 _ (by omega)]; simp (disch := omega) only [uK_n, f0]
  refine r_finP rfl (pc := 33) dX5_init_33 ffX5_27 (by first | assumption | (simp (disch := omega) only [uK_e, uK_n, hK]; done) | (simp (disch := omega) only [uK_e, uK_n, f0]; done)) (by omega) ?_
  refine r_iconst (pc := 36) dX5_init_36 ?_
  refine r_istore_n (pc := 37) dX5_init_37 (by decide) ?_
  have hk2 : ∀ x, x < l + 9 → K2 x = K1 x := fun x hx => by rw [o3 x (by omega)]; simp (disch := omega) only [uK_n]
  have hi2 : ∀ x, x < l + 9 → I2 x = I1 x := fun x hx => by rw [(o4 x (by omega) (by omega)).1]; simp (disch := omega) only [u1_n]
  have hp2 : ∀ x, x < l + 9 → x ≠ l → P2 x = P1 x := fun x hx h9 => by rw [(o4 x (by omega) (by omega)).2.1]; simp (disch := omega) only [u1_n, u2_n]
  have hl2 : ∀ x, x < l + 9 → L2 x = L1 x := fun x hx => by rw [(o4 x (by omega) (by omega)).2.2]; simp (disch := omega) only [u1_n]
  have hi1 : ∀ x, x < l + 1 → I1 x = I x := fun x hx => by rw [(e4 x (by omega) (by omega)).1]; simp (disch := omega) only [u1_n]
  have hp1 : ∀ x, x < l + 1 → P1 x = P x := fun x hx => by rw [(e4 x (by omega) (by omega)).2.1]; simp (disch := omega) only [u1_n]
  have hl1 : ∀ x, x < l + 1 → L1 x = L x := fun x hx => by rw [(e4 x (by omega) (by omega)).2.2]; simp (disch := omega) only [u1_n]
  refine loop 6 0 _ _ _ _ (by omega) (fun x hx => ?_) (fun x hx => ⟨?_, ?_, ?_⟩) g0 ?_ (u2_s _ _ _ _) ?_ ?_ (e5.1.keep (fun x h1 h2 => hk2 x (by omega)) (by rw [u2_n _ _ _ (by omega)]; exact hp2 _ (by omega) (by omega))) (fun x h1 h2 => ?_) (o5.keep (fun _ _ _ => rfl) (fun _ _ _ => rfl) (fun x h1 h2 => u2_n _ _ _ (by omega))) (fun f hf => absurd hf (by omega))
  · rw [hk2 x (by omega), e3 x (by omega), uK_n _ _ (by omega)]
  · rw [hi2 x (by omega)]; exact hi1 x (by omega)
  · rw [u2_n _ _ _ (by omega), hp2 x (by omega) (by omega)]; exact hp1 x (by omega)
  · rw [hl2 x (by omega)]; exact hl1 x (by omega)
  · rw [o3 _ (by omega)]; simp (disch := omega) only [uK_n, uK_e]
  · rw [u2_k _ _ _ _ (by decide), (o4 l (by omega) (by omega)).2.1]; simp (disch := omega) only [u1_n, u2_n, u2_k, u2_s]
  · rw [u2_k _ _ _ _ (by decide), (o4 l (by omega) (by omega)).2.1]; simp (disch := omega) only [u1_n, u2_n, u2_k, u2_s]
  · by_cases hx9 : x = l + 9
    · rw [hx9, (o4 _ (by omega) (by omega)).1]; simp (disch := omega) only [u1_n, u1_r]
    · rw [hi2 x (by omega)]
      by_cases hxl : x = l
      · rw [hxl, hi1 l (by omega)]; exact hI
      · by_cases hx1 : x = l + 1
        · rw [hx1, e5.2.1]; exact u1_r _ _ _
        · exact e5.2.2 x (by omega) (by omega)
end INIT5


