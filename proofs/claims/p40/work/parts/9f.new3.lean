/-! a farm's constructor -/
section INIT2
variable {G : WG} {C : CF} {I : MI} {P : MP} {L : ML}
def FN (G : WG) (C : CF) (I : MI) (P : MP) (a : Nat) : Prop := FarmL G C P a ∧ (∀ f, f < 6 → P (a + 4 + f) 0 = some (a + 2)) ∧ (I a = fun k => if k = 4 then 10 else 0) ∧ ∀ x, a < x → x < a + 10 → I x = fun _ => 0
theorem sX2_init {a : Nat} (hK : C.1 a = some (.inl 2)) (hB : gB G ≤ a) (hC : C.2.1 = a + 1) (hI : I a = fun _ => 0) : Sp G yX2_init cX2_init 3 none 2 9 41 [.ref a, .ref (gB G + 5)] C I P L (NC a 9 41 C I P L (fun C1 I1 P1 L1 => FN G C1 I1 P1 a)) := by
  obtain ⟨K, n, s⟩ := C
  replace hC : n = a + 1 := hC
  replace hK : K a = some (.inl 2) := hK
  subst hC
  refine en_C (by decide +kernel) (Nat.le_of_ble_eq_true rfl) ?_
  change Wd _ _ _ _ _ _ _ _ 0 [some _, some _, none] [] _ _ _ _
  have loop : ∀ (n i : Nat) (K1 : Nat → Option Kd) (I1 : MI) (P1 : MP) (L1 : ML), i + n = 6 → (∀ x, x < a + 1 → K1 x = K x) → (∀ x, x < a → I1 x = I x ∧ P1 x = P x ∧ L1 x = L x) → K1 a = some (.inl 2) → K1 (a + 1) = some (.inr (3, 6)) → K1 (a + 2) = some (.inl 3) → K1 (a + 3) = some (.inl 1) → P1 a 0 = some (gB G + 5) → P1 a 1 = some (a + 2) → P1 a 2 = some (a + 1) → P1 a 3 = some (a + 3) → (∀ x, a ≤ x → x < a + 4 + i → I1 x = fun _ => 0) → (∀ f, f < i → K1 (a + 4 + f) = some (.inl 1) ∧ P1 (a + 1) f = some (a + 4 + f) ∧ P1 (a + 4 + f) 0 = some (a + 2)) → Wd G yX2_init cX2_init 3 none 2 (a + 1 + 9, s + 41) (NC a 9 41 (K, a + 1, s) I P L (fun C1 I1 P1 L1 => FN G C1 I1 P1 a)) 46 [some (.ref a), some (.ref (gB G + 5)), some (.int (zI (i : Int)))] [] (K1, a + 4 + i, s + 11 + 5 * i) I1 P1 L1 := by
    intro n
    induction n with
    | zero =>
      intro i K1 I1 P1 L1 hi hk hf k0 k1 k2 k3 p0 p1 p2 p3 hz hr
      have hi6 : i = 6 := by omega
      subst hi6
      refine r_iload_n (pc := 46) dX2_init_46 rfl ?_
      refine r_aload_n (pc := 47) dX2_init_47 rfl ?_
      refine r_getA (pc := 48) dX2_init_48 frX2_11 (by first | exact k0 | exact k1) (by assumption) ?_
      refine r_alen (pc := 51) dX2_init_51 (by first | exact k0 | exact k1) ?_
      refine r_icmp_ge (pc := 52) 78 dX2_init_52 (by decide) (by omega) (by omega) (fun h52 => ?_) (fun h52 => ?_)
      · skip
        refine r_aload_n (pc := 78) dX2_init_78 rfl ?_
        refine r_bipush (pc := 79) dX2_init_79 (by decide) ?_
        refine r_putI (pc := 81) dX2_init_81 fwX2_35 (by first | exact k0 | exact k1) (by omega) ?_
        refine r_vret (pc := 84) dX2_init_84 rfl ?_
        refine ⟨rfl, ⟨(by dsimp only; try omega), (by dsimp only; try omega)⟩, fun x hx => ?_, fun x hx hxa => ?_, ⟨hB, k0, k1, k2, k3, p0, p1, p2, p3, fun f hf => ⟨(hr f hf).1, (hr f hf).2.1⟩⟩, fun f hf => (hr f hf).2.2, ?_, fun x h1 h2 => ?_⟩
        · replace hx : x < a + 1 := hx
          exact hk x hx
        · replace hx : x < a + 1 := hx
          rw [u2_n _ _ _ hxa]
          exact hf x (by omega)
        · funext k
          rw [u2_app, hz a (by omega) (by omega)]
          simp only [true_and]
        · rw [u2_n _ _ _ (by omega)]
          exact hz x (by omega) (by omega)
      · exact absurd h52 (by omega)
    | succ n ih =>
      intro i K1 I1 P1 L1 hi hk hf k0 k1 k2 k3 p0 p1 p2 p3 hz hr
      refine r_iload_n (pc := 46) dX2_init_46 rfl ?_
      refine r_aload_n (pc := 47) dX2_init_47 rfl ?_
      refine r_getA (pc := 48) dX2_init_48 frX2_11 (by first | exact k0 | exact k1 | (simp (disch := omega) only [uK_e, uK_n, k0, k1])) (by assumption) ?_
      refine r_alen (pc := 51) dX2_init_51 (by first | exact k0 | exact k1 | (simp (disch := omega) only [uK_e, uK_n, k0, k1])) ?_
      refine r_icmp_ge (pc := 52) 78 dX2_init_52 (by decide) (by omega) (by omega) (fun h52 => ?_) (fun h52 => ?_)
      · exact absurd h52 (by omega)
      · skip
        refine r_aload_n (pc := 55) dX2_init_55 rfl ?_
        refine r_getA (pc := 56) dX2_init_56 frX2_11 (by first | exact k0 | exact k1 | (simp (disch := omega) only [uK_e, uK_n, k0, k1])) (by assumption) ?_
        refine r_iload_n (pc := 59) dX2_init_59 rfl ?_
        refine r_new (c := 1) (N := 5) (pc := 60) rfl rfl q140 q144 q11 dX2_init_60 (by first | omega | (dsimp only; omega)) (by first | omega | (dsimp only; omega)) ?_
        try dsimp only
        refine r_dup (pc := 63) dX2_init_63 rfl ?_
        refine r_aload_n (pc := 64) dX2_init_64 rfl ?_
        have hg : u1 P1 (a + 4 + i) none a 1 = some (a + 2) := by rw [u1_n _ _ (by omega)]; exact p1
        refine r_getP (pc := 65) dX2_init_65 frX2_24 (by first | exact k0 | exact k1 | (simp (disch := omega) only [uK_e, uK_n, k0, k1])) (by assumption) ?_
        refine i_I1x (pc := 68) okX1_init rfl inX1_init q145 dX2_init_68 (by decide) (Nat.le_of_ble_eq_true rfl) (by first | omega | (dsimp only; omega)) (by first | omega | (dsimp only; omega)) (sX1_init (by exact uK_e _ _ _) (by omega)) ?_
        refine r_aast (t := 3) (n := 6) (j := i) (cb := 1) (pc := 71) dX2_init_71 (by first | exact k0 | exact k1 | (simp (disch := omega) only [uK_e, uK_n, k0, k1])) rfl (by decide) (by omega) (by omega) (by omega) (by omega) (by first | exact k0 | exact k1 | (simp (disch := omega) only [uK_e, uK_n, k0, k1])) rfl (Or.inl rfl) ?_
        refine r_iinc (pc := 72) dX2_init_72 rfl ?_
        refine r_goto (pc := 75) 46 dX2_init_75 (by decide) ?_
        refine ih (i + 1) _ _ _ _ (by omega) (fun x hx => ?_) (fun x hx => ⟨?_, ?_, ?_⟩) ?_ ?_ ?_ ?_ ?_ ?_ ?_ ?_ (fun x h1 h2 => ?_) (fun f hf => ?_)
        · rw [uK_n _ _ (by omega)]; exact hk x hx
        · rw [u1_n _ _ (by omega)]; exact (hf x hx).1
        · rw [u2_n _ _ _ (by omega), u2_n _ _ _ (by omega), u1_n _ _ (by omega)]; exact (hf x hx).2.1
        · rw [u1_n _ _ (by omega)]; exact (hf x hx).2.2
        · rw [uK_n _ _ (by omega)]; exact k0
        · rw [uK_n _ _ (by omega)]; exact k1
        · rw [uK_n _ _ (by omega)]; exact k2
        · rw [uK_n _ _ (by omega)]; exact k3
        · rw [u2_n _ _ _ (by omega), u2_n _ _ _ (by omega), u1_n _ _ (by omega)]; exact p0
        · rw [u2_n _ _ _ (by omega), u2_n _ _ _ (by omega), u1_n _ _ (by omega)]; exact p1
        · rw [u2_n _ _ _ (by omega), u2_n _ _ _ (by omega), u1_n _ _ (by omega)]; exact p2
        · rw [u2_n _ _ _ (by omega), u2_n _ _ _ (by omega), u1_n _ _ (by omega)]; exact p3
        · by_cases hx : x = a + 4 + i
          · rw [hx, u1_r]
          · rw [u1_n _ _ hx]; exact hz x h1 (by omega)
        · by_cases hfi : f = i
          · subst hfi
            refine ⟨uK_e _ _ _, u2_s _ _ _ _, ?_⟩
            rw [u2_n _ _ _ (by omega)]; exact u2_s _ _ _ _
          · have hr := hr f (by omega)
            refine ⟨?_, ?_, ?_⟩
            · rw [uK_n _ _ (by omega)]; exact hr.1
            · rw [u2_k _ _ _ _ (by omega), u2_n _ _ _ (by omega), u1_n _ _ (by omega)]; exact hr.2.1
            · rw [u2_n _ _ _ (by omega), u2_n _ _ _ (by omega), u1_n _ _ (by omega)]; exact hr.2.2
  refine r_aload_n (pc := 0) dX2_init_0 rfl ?_
  refine r_obj (pc := 1) q139 dX2_init_1 (by decide) (Nat.le_of_ble_eq_true rfl) ?_
  refine r_aload_n (pc := 4) dX2_init_4 rfl ?_
  refine r_bipush (pc := 5) dX2_init_5 (by decide) ?_
  refine r_anew (t := 3) (N := 6) (pc := 7) rfl (by decide) q140 (by decide) dX2_init_7 rfl (by decide) (by first | omega | (dsimp only; omega)) (by first | omega | (dsimp only; omega)) ?_
  try dsimp only
  refine r_finA rfl (pc := 10) dX2_init_10 ffX2_11 (by simp (disch := omega) only [uK_e, uK_n, hK]) (by omega) ?_
  refine r_aload_n (pc := 13) dX2_init_13 rfl ?_
  refine r_aload_n (pc := 14) dX2_init_14 rfl ?_
  refine r_finA rfl (pc := 15) dX2_init_15 ffX2_17 (by simp (disch := omega) only [uK_e, uK_n, hK]) (by omega) ?_
  refine r_aload_n (pc := 18) dX2_init_18 rfl ?_
  refine r_new (c := 3) (N := 0) (pc := 19) rfl rfl q142 q50 q3 dX2_init_19 (by first | omega | (dsimp only; omega)) (by first | omega | (dsimp only; omega)) ?_
  try dsimp only
  refine r_dup (pc := 22) dX2_init_22 rfl ?_
  refine i_IN0x (pc := 23) okX3_init rfl inX3_init nwX2_23 dX2_init_23 (by decide) (Nat.le_of_ble_eq_true rfl) (by first | omega | (dsimp only; omega)) (by first | omega | (dsimp only; omega)) (sX3_init) ?_
  refine r_finP rfl (pc := 26) dX2_init_26 ffX2_24 (by simp (disch := omega) only [uK_e, uK_n, hK]) (by omega) ?_
  refine r_aload_n (pc := 29) dX2_init_29 rfl ?_
  refine r_new (c := 1) (N := 5) (pc := 30) rfl rfl q140 q144 q11 dX2_init_30 (by first | omega | (dsimp only; omega)) (by first | omega | (dsimp only; omega)) ?_
  try dsimp only
  refine r_dup (pc := 33) dX2_init_33 rfl ?_
  refine r_aload_n (pc := 34) dX2_init_34 rfl ?_
  have hg : (u1 (u2 (u1 (u2 (u2 (u1 P (a + 1) none) a 2 (some (a + 1))) a 0 (some (gB G + 5))) (a + 1 + 1) none) a 1 (some (a + 1 + 1))) (a + 1 + 1 + 1) none) a 1 = some (a + 1 + 1) := by rw [u1_n _ _ (by omega)]; exact u2_s _ _ _ _
  refine r_getP (pc := 35) dX2_init_35 frX2_24 (by simp (disch := omega) only [uK_e, uK_n, hK]) (by assumption) ?_
  refine i_I1x (pc := 38) okX1_init rfl inX1_init q145 dX2_init_38 (by decide) (Nat.le_of_ble_eq_true rfl) (by first | omega | (dsimp only; omega)) (by first | omega | (dsimp only; omega)) (sX1_init (by exact uK_e _ _ _) (by omega)) ?_
  refine r_finP rfl (pc := 41) dX2_init_41 ffX2_31 (by simp (disch := omega) only [uK_e, uK_n, hK]) (by omega) ?_
  refine r_iconst (pc := 44) dX2_init_44 ?_
  refine r_istore_n (pc := 45) dX2_init_45 (by decide) ?_
  refine loop 6 0 _ _ _ _ (by omega) (fun x hx => ?_) (fun x hx => ⟨?_, ?_, ?_⟩) ?_ ?_ ?_ ?_ ?_ ?_ ?_ ?_ (fun x h1 h2 => ?_) (fun f hf => absurd hf (by omega))
  · simp (disch := omega) only [uK_n]
  · simp (disch := omega) only [u1_n]
  · simp (disch := omega) only [u1_n, u2_n]
  · simp (disch := omega) only [u1_n]
  · simp (disch := omega) only [uK_n, hK]
  · simp (disch := omega) only [uK_e, uK_n]
  · simp (disch := omega) only [uK_e, uK_n]
  · simp (disch := omega) only [uK_e, uK_n]
  · simp (disch := omega) only [u1_n, u2_n, u2_k, u2_s]
  · simp (disch := omega) only [u1_n, u2_n, u2_k, u2_s]
  · simp (disch := omega) only [u1_n, u2_n, u2_k, u2_s]
  · simp (disch := omega) only [u1_n, u2_n, u2_k, u2_s]
  · have h3 : x = a ∨ x = a + 1 ∨ x = a + 2 ∨ x = a + 3 := by omega
    rcases h3 with rfl | rfl | rfl | rfl
    · simp (disch := omega) only [u1_n, hI]
    · simp (disch := omega) only [u1_r, u1_n]
    · simp (disch := omega) only [u1_r, u1_n]
    · simp (disch := omega) only [u1_r, u1_n]
end INIT2


