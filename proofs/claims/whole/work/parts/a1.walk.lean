/-! the law from its entry -/
theorem law_walk {G : WG} {nm : String} {b L : Nat} {Q : Post} {sx : Nat → Int} {K0 : Nat → Option Kd} {I : MI} {P : MP} {Lm0 : ML} (hQ : ∀ C I P L, Q (some (.int (zI 1))) C I P L) (hL : L ≤ 3584) (hb : b < gB G) (hKb : K0 b = some (.inr (0, L))) (hsx : ∀ j, j < L → I b j = sx j) (hir : ∀ j, j < L → iR (sx j)) (hT : TxtL G (K0, gB G, 0) I) (hS : StatL G (K0, gB G, 0) I) (hW : LowL G) (hn : (∀ i, i < 3 → b ≠ gT G i) ∧ ∀ i, i < 5 → b ≠ gV G i) : Wd G ⟨RL, nm, "([I)Z"⟩ cL_law 4 (some .boolean) 48 (600422 + gB G, 7300981) Q 0 [some (.ref b), none, none, none] [] (K0, gB G, 0) I P Lm0 := by
  refine r_new (c := 11) (N := 13) (pc := 0) rfl rfl q20 q21 q1 dL_law_0 (by first | omega | (dsimp only; omega)) (by first | omega | (dsimp only; omega)) ?_
  try dsimp only
  refine r_dup (pc := 3) dL_law_3 rfl ?_
  refine i_I0c (pc := 4) okX11_init rfl inX11_init q22 dL_law_4 (by decide) (Nat.le_of_ble_eq_true rfl) (by first | omega | (dsimp only; omega)) (by first | omega | (dsimp only; omega)) (sX11_init (G := G) (by exact uK_e _ _ _) rfl (by exact u1_r _ _ _) (by exact u1_r _ _ _)) (fun C1 I1 P1 L1 e1 e2 e3 e4 e5 => ?_)
  obtain ⟨K1, n1, s1⟩ := C1
  dsimp only at e1 e2 e3 e4
  have e1' : n1 = gB G + 427 := by omega
  have e2' : s1 = 2735 := by omega
  subst e1' e2'
  refine r_astore_n (pc := 7) dL_law_7 (by decide) ?_
  refine r_new (c := 12) (N := 18) (pc := 8) rfl rfl q1027 q1028 q13 dL_law_8 (by first | omega | (dsimp only; omega)) (by first | omega | (dsimp only; omega)) ?_
  try dsimp only
  refine r_dup (pc := 11) dL_law_11 rfl ?_
  refine i_I0c (pc := 12) okX12_init rfl inX12_init q1029 dL_law_12 (by decide) (Nat.le_of_ble_eq_true rfl) (by first | omega | (dsimp only; omega)) (by first | omega | (dsimp only; omega)) (sX12_init (G := G) (m := gB G + 427) (by exact uK_e _ _ _) (by omega) rfl (by exact u1_r _ _ _) (by exact u1_r _ _ _)) (fun C2 I2 P2 L2 o1 o2 o3 o4 o5 => ?_)
  obtain ⟨K2, n2, s2⟩ := C2
  dsimp only at o1 o2 o3 o4
  have o1' : n2 = gB G + 439 := by omega
  have o2' : s2 = 3844 := by omega
  subst o1' o2'
  refine r_astore_n (pc := 15) dL_law_15 (by decide) ?_
  refine r_iconst (pc := 16) dL_law_16 ?_
  refine r_istore_n (pc := 17) dL_law_17 (by decide) ?_
  have hk : ∀ x, x < gB G + 427 → K2 x = K1 x := fun x hx => by rw [o3 x (by omega), uK_n _ _ (by omega)]
  have hi : ∀ x, x < gB G + 427 → I2 x = I1 x := fun x hx => by rw [(o4 x (by omega) (by omega)).1, u1_n _ _ (by omega)]
  have hp : ∀ x, x < gB G + 427 → P2 x = P1 x := fun x hx => by rw [(o4 x (by omega) (by omega)).2.1, u1_n _ _ (by omega)]
  have hl : ∀ x, x < gB G + 427 → L2 x = L1 x := fun x hx => by rw [(o4 x (by omega) (by omega)).2.2, u1_n _ _ (by omega)]
  have lk : ∀ x, x < gB G → K2 x = K0 x := fun x hx => by rw [hk x (by omega), e3 x (by omega), uK_n _ _ (by omega)]
  have li : ∀ x, x < gB G → I2 x = I x := fun x hx => by rw [hi x (by omega), (e4 x (by omega) (by omega)).1, u1_n _ _ (by omega)]
  have hYN : YN G (K2, gB G + 439, 3844) I2 P2 L2 := e5.keep (fun x q1 q2 => hk x q2) (fun x q1 q2 => hi x q2) (fun x q1 q2 => hp x q2) (hl _ (by omega))
  let A : Nat → Prop := fun a => (gB G ≤ a ∧ a < gB G + 427) ∨ ((∃ i, i < 3 ∧ a = gT G i) ∨ ∃ i, i < 5 ∧ a = gV G i)
  have hdA : ∀ a, Decidable (A a) := fun a => Classical.propDecidable _
  let Ka : Nat → Option Kd := fun a => @ite _ (A a) (hdA a) (K2 a) none
  let Kb : Nat → Option Kd := fun a => if gB G + 427 ≤ a ∧ a < gB G + 439 then K2 a else none
  have ka : ∀ a, A a → Ka a = K2 a := fun a h => @if_pos _ (hdA a) h _ _ _
  have kn : ∀ a, ¬ A a → Ka a = none := fun a h => @if_neg _ (hdA a) h _ _ _
  have kb : ∀ a, gB G + 427 ≤ a ∧ a < gB G + 439 → Kb a = K2 a := fun a h => if_pos h
  have kbn : ∀ a, ¬ (gB G + 427 ≤ a ∧ a < gB G + 439) → Kb a = none := fun a h => if_neg h
  have aT : ∀ i, i < 3 → A (gT G i) := fun i hi => Or.inr (Or.inl ⟨i, hi, rfl⟩)
  have aV : ∀ i, i < 5 → A (gV G i) := fun i hi => Or.inr (Or.inr ⟨i, hi, rfl⟩)
  have aL : ∀ a, A a → a < gB G + 427 := fun a h => by
    rcases h with h | ⟨i, h1, h2⟩ | ⟨i, h1, h2⟩
    · exact h.2
    · have := hW.1 i h1; omega
    · have := hW.2 i h1; omega
  have abn : ¬ A b := fun h => by
    rcases h with h | ⟨i, h1, h2⟩ | ⟨i, h1, h2⟩
    · omega
    · exact hn.1 i h1 h2
    · exact hn.2 i h1 h2
  clear_value Ka Kb
  have hYa : YN G (Ka, gB G + 439, 3844) I2 P2 L2 := hYN.keep (fun x q1 q2 => ka x (Or.inl ⟨q1, q2⟩)) (fun _ _ _ => rfl) (fun _ _ _ => rfl) rfl
  have hTa : TxtL G (Ka, gB G + 439, 3844) I2 := fun i k hik => by
    have hi5 := (slen_in hik).1
    refine ⟨?_, fun j hj => ?_⟩
    · show Ka (gV G i) = _
      rw [ka _ (aV i hi5), lk _ (hW.2 i hi5)]; exact (hT i k hik).1
    · rw [li _ (hW.2 i hi5)]; exact (hT i k hik).2 j hj
  have hSa : StatL G (Ka, gB G + 439, 3844) I2 := by
    obtain ⟨c0, c1, c2, d0, d1, d2⟩ := hS
    refine ⟨?_, ?_, ?_, fun j hj => ?_, fun j hj => ?_, fun j hj => ?_⟩
    · show Ka (gT G 0) = _
      rw [ka _ (aT 0 (by decide)), lk _ (hW.1 0 (by decide))]; exact c0
    · show Ka (gT G 1) = _
      rw [ka _ (aT 1 (by decide)), lk _ (hW.1 1 (by decide))]; exact c1
    · show Ka (gT G 2) = _
      rw [ka _ (aT 2 (by decide)), lk _ (hW.1 2 (by decide))]; exact c2
    · rw [li _ (hW.1 0 (by decide))]; exact d0 j hj
    · rw [li _ (hW.1 1 (by decide))]; exact d1 j hj
    · rw [li _ (hW.1 2 (by decide))]; exact d2 j hj
  have hYI := YI_start hYa hTa hSa hW
  have hRf : RfL G (Kb, gB G + 439, 3844) P2 (gB G + 427) := o5.1.keep (fun x q1 q2 => kb x ⟨q1, by omega⟩)
  have hYR := YR_start hYN o5
  have kbb : Ka b = none := kn b abn
  have kbb2 : Kb b = none := kbn b (by omega)
  have hX : LX G b L Ka Kb K2 (gB G + 439, 3844) sx I2 := by
    refine ⟨fun a kd h => ?_, fun a kd h => ?_, fun a => ?_, by rw [lk b hb]; exact hKb, hL, hir, fun Ic Im Pc Y _ j hj => ?_⟩
    · by_cases hA : A a
      · rw [ka a hA] at h; exact h
      · rw [kn a hA] at h; cases h
    · by_cases hA : gB G + 427 ≤ a ∧ a < gB G + 439
      · rw [kb a hA] at h; exact h
      · rw [kbn a hA] at h; cases h
    · by_cases hA : A a
      · exact Or.inr (kbn a (by have := aL a hA; omega))
      · exact Or.inl (kn a hA)
    · have e : MM Ka Kb Ic Im I2 b = I2 b := by
        unfold MM
        rw [if_neg (by rw [kbb]; decide), if_neg (by rw [kbb2]; decide)]
      rw [e, li b hb]; exact hsx j hj
  have hh := law_loop (nm := nm) (Z := (600422 + gB G, 7300981)) (Q := Q) (Ps := P2) (Ls := L2) hX hQ L 0 0 I2 P2 L2 I2 P2 L2 (Nat.zero_le L) (by omega) (by decide) ⟨hYI, hRf, hYR, Int.le_refl 0⟩
  unfold WL at hh
  rw [MM_same, MM_same, MM_same] at hh
  exact hh
def I0 (s : State) : MI := fun a j => match s.heap[a]? with
  | some c => (match c.slots[j]? with
    | some (.int x) => x.toInt
    | _ => 0)
  | none => 0
theorem I0_at {s : State} {a j : Nat} {cell : Cell} {x : Int32} (h : s.heap[a]? = some cell) (h2 : cell.slots[j]? = some (.int x)) : I0 s a j = x.toInt := by
  unfold I0
  rw [h]
  dsimp only
  rw [h2]
def K0 (G : WG) (b L : Nat) : Nat → Option Kd := fun a => if a = b then some (.inr (0, L)) else if a = gT G 0 then some (.inr (0, 5)) else if a = gT G 1 then some (.inr (0, 15)) else if a = gT G 2 then some (.inr (0, 15)) else if a = gV G 0 then some (.inr (5, 4)) else if a = gV G 1 then some (.inr (5, 5)) else if a = gV G 2 then some (.inr (5, 6)) else if a = gV G 3 then some (.inr (5, 3)) else if a = gV G 4 then some (.inr (5, 4)) else none
theorem vT_eq {ty ty' : FieldType} {t N N' : Nat} {f f' : Nat → Value} {A : Nat → Prop} {U : State} {H : Heap} (h : va_T ty t N f A U H) (h' : va_T ty' t N' f' A U H) : ty = ty' ∧ Int32.ofNat N = Int32.ofNat N' := by
  obtain ⟨cell, h1, ⟨-, k, hk, comp, hkind⟩, -, -, h5, -⟩ := h
  obtain ⟨cell', h1', ⟨-, k', hk', comp', hkind'⟩, -, -, h5', -⟩ := h'
  rw [h1] at h1'
  cases h1'
  rw [hk] at hk'
  cases hk'
  rw [hkind] at hkind'
  cases hkind'
  exact ⟨rfl, h5.symm.trans h5'⟩
theorem cat_T {G : WG} {s : State} {t a N : Nat} {f : Nat → Int32} (h : va_T (aty t) a N (fun j => .int (f j)) (gA G) s s.heap) (ht : aty t = .int ∨ aty t = .byte) (hB : a < gB G) : cAt G s (I0 s) (fun _ _ => none) (fun _ _ => 0) s.heap a (.inr (t, N)) := by
  obtain ⟨cell, h1, h2, h3, h4, h5, h6, -⟩ := h
  refine ⟨cell, h1, h2, h3, h4, h5, fun j hj => ?_, fun hb => absurd hb (by omega)⟩
  rw [h6 j hj]
  have e := I0_at h1 (h6 j hj)
  show some (Value.int (f j)) = some (fV (aty t) (I0 s) (fun _ _ => none) (fun _ _ => 0) a j)
  rcases ht with ht | ht
  · rw [ht]
    show some (Value.int (f j)) = some (Value.int (zI (I0 s a j)))
    rw [e, zI_self]
  · rw [ht]
    show some (Value.int (f j)) = some (Value.int (zI (I0 s a j)))
    rw [e, zI_self]
theorem I0_T {G : WG} {s : State} {ty : FieldType} {a N : Nat} {f : Nat → Int32} (h : va_T ty a N (fun j => .int (f j)) (gA G) s s.heap) {j : Nat} (hj : j < N) : I0 s a j = (f j).toInt := by
  obtain ⟨cell, h1, h2, h3, h4, h5, h6, -⟩ := h
  exact I0_at h1 (h6 j hj)

