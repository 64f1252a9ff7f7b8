/-! what the constructor leaves; the law from its entry -/
def f0 : Nat → Int := fun k => if k = 0 then 10 else 0
theorem f0_n {k : Nat} (h : k ≠ 0) : f0 k = 0 := if_neg h
theorem FI_f0 : FI f0 0 := ⟨⟨by decide, by decide⟩, ⟨by decide, by decide⟩, ⟨by decide, by decide⟩, ⟨by decide, by decide⟩, ⟨by decide, by decide⟩, ⟨by decide, by decide⟩, ⟨by decide, by decide⟩, fun f hf => by
  rw [f0_n (k := 7 + 4 * f) (by omega), f0_n (k := 8 + 4 * f) (by omega), f0_n (k := 9 + 4 * f) (by omega), f0_n (k := 10 + 4 * f) (by omega), f0_n (k := 6) (by decide)]
  omega⟩
theorem BI_00 : BI (fun _ => 0) := ⟨by dsimp only; omega, by dsimp only; omega, by dsimp only; omega, by dsimp only; omega, fun d hd => by dsimp only; omega, fun d hd => by dsimp only; omega, fun i hi => by dsimp only; omega⟩
section START
variable {G : WG} {C C1 : CF} {I I1 : MI} {P P1 : MP} {L L1 : ML}
theorem FN_rd {a : Nat} (h : FN G C I P a) : rdF I a = f0 := by
  obtain ⟨-, -, h3, h4⟩ := h
  funext k
  rw [rd_def]
  by_cases h7 : k < 7
  · rw [if_pos h7, h3]
    show (if k + 4 = 4 then (10 : Int) else 0) = if k = 0 then 10 else 0
    by_cases h0 : k = 0
    · rw [if_pos (by omega), if_pos h0]
    · rw [if_neg (by omega), if_neg h0]
  · rw [if_neg h7]
    by_cases h31 : k < 31
    · rw [if_pos h31, h4 _ (by omega) (by omega), f0_n (by omega)]
    · rw [if_neg h31, h3, f0_n (by omega)]
      show (if k - 20 = 4 then (10 : Int) else 0) = 0
      rw [if_neg (by omega)]
theorem rdB_00 {b : Nat} (h : ∀ x, b ≤ x → x < b + 8 → I x = fun _ => 0) : rdB I b = fun _ => 0 := by
  funext k
  rw [rdB_def, h b (by omega) (by omega), h (b + 1 + (k - 34) % 3) (by omega) (by omega), h (b + 4 + (k - 60) % 3) (by omega) (by omega), h (b + 7) (by omega) (by omega)]
  simp only [ite_self]
theorem FN_way {a : Nat} (h : FN G C I P a) : WayL C P a f0 := fun f hf => ⟨a + 2, h.2.1 f hf, by
  rw [f0_n (k := 7 + 4 * f) (by omega)]
  exact h.1.2.2.2.1⟩
theorem LN_rd {l : Nat} (h : LN G C I P l) : rdL I l = (f0, (fun _ => 0), 0, 0, fun i => if i < 6 then f0 else fun _ => 0) := by
  obtain ⟨-, h2, h3, h4⟩ := h
  refine rdL_mk (FN_rd h3) (rdB_00 (fun x q1 q2 => h2 x (by omega) (by omega))) (by rw [h2 l (by omega) (by omega)]) (by rw [h2 l (by omega) (by omega)]) (fun i hi => ?_) (fun i hi => ?_)
  · rw [if_pos hi]; exact FN_rd (h4 i hi)
  · rw [if_neg (by omega)]
theorem LN_LI {l : Nat} (h : LN G C I P l) : LI (rdL I l) 0 ∧ WaysL C P l (rdL I l) ∧ UI (rdL I l) := by
  rw [LN_rd h]
  refine ⟨⟨FI_f0, BI_00, by show (0 : Int) ≤ 0 ∧ (0 : Int) < 6; omega, by show (0 : Int) ≤ 0 ∧ (0 : Int) ≤ 6; omega, fun i hi => ?_⟩, ⟨FN_way h.2.2.1, fun i hi => ?_⟩, UI_0 rfl⟩
  · show FI (if i < 6 then f0 else fun _ => 0) 0
    rw [if_pos hi]; exact FI_f0
  · show WayL C P (l + 20 + 10 * i) (if i < 6 then f0 else fun _ => 0)
    rw [if_pos hi]; exact FN_way (h.2.2.2 i hi)
theorem TN_TF {t : Nat} (h : TN G C I P t) (i : Nat) (hi : i < 9) : TF C I P (t + 6 + 10 * i) := by
  have hf : FN G C I P (t + 6 + 10 * i) := by
    by_cases h0 : i = 0
    · rw [h0]; exact h.2.2.1
    · have := h.2.2.2 (i - 1) (by omega)
      rw [show t + 6 + 10 * i = t + 16 + 10 * (i - 1) by omega]; exact this
  unfold TF
  rw [FN_rd hf]
  exact ⟨FN_way hf, FI_le FI_f0 (by decide)⟩
theorem YI_start (hN : YN G C I P L) (hT : TxtL G C I) (hS : StatL G C I) (hW : LowL G) : YI G C I P 0 := by
  obtain ⟨hy, a1, a2, a3, a4, ht, hz, -, -⟩ := hN
  obtain ⟨b1, c1, d1⟩ := LN_LI a1
  obtain ⟨b2, c2, d2⟩ := LN_LI a2
  obtain ⟨b3, c3, d3⟩ := LN_LI a3
  obtain ⟨b4, c4, d4⟩ := LN_LI a4
  refine ⟨hy, ⟨b1, b2, b3, b4⟩, ⟨c1, c2, c3, c4⟩, ⟨d1, d3, d4⟩, fun i _ hi => TN_TF ht i hi, ⟨0, ?_, by omega, fun j hj => ?_⟩, fun j hj => ?_, ?_, ?_, hT, hS, hW⟩
  · rw [hz _ (by omega) (by omega)]; rfl
  · rw [hz _ (by omega) (by omega)]; dsimp only; omega
  · rw [hz _ (by omega) (by omega)]; dsimp only; omega
  · rw [ht.2.1 _ (by omega) (by omega)]
  · rw [ht.2.1 _ (by omega) (by omega)]
theorem YN.keep (h : YN G C I P L) (hc : ∀ x, gB G ≤ x → x < gB G + 427 → C1.1 x = C.1 x) (hi : ∀ x, gB G ≤ x → x < gB G + 427 → I1 x = I x) (hp : ∀ x, gB G ≤ x → x < gB G + 427 → P1 x = P x) (hl : L1 (gB G) = L (gB G)) : YN G C1 I1 P1 L1 := by
  obtain ⟨⟨k0, k4, p0, p1, p2, p3, p4, p5, p6, rd, -, -, -, -, -, kd⟩, a1, a2, a3, a4, ht, hz, l1, l2⟩ := h
  have n1 : LN G C1 I1 P1 (gB G + 11) := a1.keep (fun x q1 q2 => hc x (by omega) (by omega)) (fun x q1 q2 => hi x (by omega) (by omega)) (fun x q1 q2 => hp x (by omega) (by omega))
  have n2 : LN G C1 I1 P1 (gB G + 91) := a2.keep (fun x q1 q2 => hc x (by omega) (by omega)) (fun x q1 q2 => hi x (by omega) (by omega)) (fun x q1 q2 => hp x (by omega) (by omega))
  have n3 : LN G C1 I1 P1 (gB G + 171) := a3.keep (fun x q1 q2 => hc x (by omega) (by omega)) (fun x q1 q2 => hi x (by omega) (by omega)) (fun x q1 q2 => hp x (by omega) (by omega))
  have n4 : LN G C1 I1 P1 (gB G + 251) := a4.keep (fun x q1 q2 => hc x (by omega) (by omega)) (fun x q1 q2 => hi x (by omega) (by omega)) (fun x q1 q2 => hp x (by omega) (by omega))
  have n5 : TN G C1 I1 P1 (gB G + 331) := ht.keep (fun x q1 q2 => hc x (by omega) (by omega)) (fun x q1 q2 => hi x (by omega) (by omega)) (fun x q1 q2 => hp x (by omega) (by omega))
  have hp0 := hp (gB G) (by omega) (by omega)
  refine ⟨⟨(hc _ (by omega) (by omega)).trans k0, (hc _ (by omega) (by omega)).trans k4, by rw [hp0]; exact p0, by rw [hp0]; exact p1, by rw [hp0]; exact p2, by rw [hp0]; exact p3, by rw [hp0]; exact p4, by rw [hp0]; exact p5, by rw [hp0]; exact p6, ⟨rd.1, (hc _ (by omega) (by omega)).trans rd.2.1, (hc _ (by omega) (by omega)).trans rd.2.2.1, (hc _ (by omega) (by omega)).trans rd.2.2.2.1, by rw [hp _ (by omega) (by omega)]; exact rd.2.2.2.2.1, by rw [hp _ (by omega) (by omega)]; exact rd.2.2.2.2.2⟩, n1.1, n2.1, n3.1, n4.1, n5.1, (hc _ (by omega) (by omega)).trans kd.1, fun k hk => ⟨by rw [hp _ (by omega) (by omega)]; exact (kd.2 k hk).1, (hc _ (by omega) (by omega)).trans (kd.2 k hk).2⟩⟩, n1, n2, n3, n4, n5, fun x q1 q2 => by rw [hi x q1 (by omega)]; exact hz x q1 q2, by rw [hl]; exact l1, by rw [hl]; exact l2⟩
end START
def I0 (s : State) : MI := fun a j => match s.heap[a]? with
  | some c => (match c.slots[j]? with
    | some (.int x) => x.toInt
    | _ => 0)
  | none => 0
theorem I0_at {s : State} {a j : Nat} {cell : Cell} {x : Int32} (h : s.heap[a]? = some cell) (h2 : cell.slots[j]? = some (.int x)) : I0 s a j = x.toInt := by
  unfold I0
  rw [h]
  dsimp only
  rw [h2]
theorem cat_T {G : WG} {s : State} {t a N : Nat} {f : Nat → Int32} (h : va_T (aty t) a N (fun j => .int (f j)) (gA G) s s.heap) (ht : aty t = .int ∨ aty t = .byte) (hB : a < gB G) : cAt G s (I0 s) (fun _ _ => none) (fun _ _ => 0) s.heap a (.inr (t, N)) := by
  obtain ⟨cell, h1, h2, h3, h4, h5, h6, -⟩ := h
  refine ⟨cell, h1, h2, h3, h4, h5, fun j hj => ?_, fun hb => absurd hb (by omega)⟩
  rw [h6 j hj]
  have e := I0_at h1 (h6 j hj)
  show some (Value.int (f j)) = some (fV (aty t) (I0 s) (fun _ _ => none) (fun _ _ => 0) a j)
  rcases ht with ht | ht
  · rw [ht]
    show some (Value.int (f j)) = some (Value.int (zI (I0 s a j)))
    rw [e, zI_self]
  · rw [ht]
    show some (Value.int (f j)) = some (Value.int (zI (I0 s a j)))
    rw [e, zI_self]
theorem I0_T {G : WG} {s : State} {ty : FieldType} {a N : Nat} {f : Nat → Int32} (h : va_T ty a N (fun j => .int (f j)) (gA G) s s.heap) {j : Nat} (hj : j < N) : I0 s a j = (f j).toInt := by
  obtain ⟨cell, h1, h2, h3, h4, h5, h6, -⟩ := h
  exact I0_at h1 (h6 j hj)
def K0 (b L : Nat) : Nat → Option Kd := fun a => if a = b then some (.inr (0, L)) else none
theorem law_walk {G : WG} {nm : String} {b L : Nat} {Q : Post} {sx : Nat → Int} {K0 : Nat → Option Kd} {I : MI} {P : MP} {Lm0 : ML} (hQ : ∀ C I P L, Q (some (.int (zI 1))) C I P L) (hL : L ≤ 260) (hb : b < gB G) (hKb : K0 b = some (.inr (0, L))) (hsx : ∀ j, j < L → I b j = sx j) : Wd G ⟨RL, nm, "([I)Z"⟩ cL_law 17 (some .boolean) 48 (696444 + gB G, 7012917) Q 0 [some (.ref b), none, none, none, none, none, none, none, none, none, none, none, none, none, none, none, none] [] (K0, gB G, 0) I P Lm0 := by
  refine r_new (c := 11) (N := 13) (pc := 0) rfl rfl q15 q16 q1 dL_law_0 (by first | omega | (dsimp only; omega)) (by first | omega | (dsimp only; omega)) ?_
  try dsimp only
  refine r_dup (pc := 3) dL_law_3 rfl ?_
  refine i_I0c (pc := 4) okX11_init rfl inX11_init q17 dL_law_4 (by decide) (Nat.le_of_ble_eq_true rfl) (by first | omega | (dsimp only; omega)) (by first | omega | (dsimp only; omega)) (sX11_init (G := G) (by exact uK_e _ _ _) rfl (by exact u1_r _ _ _) (by exact u1_r _ _ _)) (fun C1 I1 P1 L1 e1 e2 e3 e4 e5 => ?_)
  obtain ⟨K1, n1, s1⟩ := C1
  dsimp only at e1 e2 e3 e4
  have e1' : n1 = gB G + 427 := by omega
  have e2' : s1 = 2735 := by omega
  subst e1' e2'
  refine r_astore_n (pc := 7) dL_law_7 (by decide) ?_
  have lk : ∀ x, x < gB G → K1 x = K0 x := fun x hx => by rw [e3 x (by omega), uK_n _ _ (by omega)]
  have li : ∀ x, x < gB G → I1 x = I x := fun x hx => by rw [(e4 x (by omega) (by omega)).1, u1_n _ _ (by omega)]
  let Ka : Nat → Option Kd := fun a => if gB G ≤ a ∧ a < gB G + 427 then K1 a else none
  have ka : ∀ a, gB G ≤ a ∧ a < gB G + 427 → Ka a = K1 a := fun a h => if_pos h
  have kn : ∀ a, ¬ (gB G ≤ a ∧ a < gB G + 427) → Ka a = none := fun a h => if_neg h
  clear_value Ka
  have hYa : YN G (Ka, gB G + 427, 2735) I1 P1 L1 := e5.keep (fun x q1 q2 => ka x ⟨q1, q2⟩) (fun _ _ _ => rfl) (fun _ _ _ => rfl) rfl
  have hYI := YI_start hYa trivial trivial trivial
  have hC : LC b L Ka K1 sx I1 := by
    refine ⟨fun a kd h => ?_, by rw [lk b hb]; exact hKb, hL, fun Ic j hj => ?_⟩
    · by_cases hA : gB G ≤ a ∧ a < gB G + 427
      · rw [ka a hA] at h; exact h
      · rw [kn a hA] at h; cases h
    · have e : mg Ka Ic I1 b = I1 b := by
        unfold mg
        rw [if_neg (by rw [kn b (by omega)]; decide)]
      rw [e, li b hb]; exact hsx j hj
  have hten : (rdY G I1 L1).1.1 0 = 10 := by
    have h1 := LN_rd hYa.2.1
    show (rdL I1 (gB G + 11)).1 0 = 10
    rw [h1]; rfl
  have hkp : (rdY G I1 L1).2.2.2.2.2.1 = 0 := by
    show I1 (gB G) 7 = 0
    obtain ⟨-, -, -, -, -, -, hz, -, -⟩ := hYa
    rw [hz _ (by omega) (by omega)]
  have hh := ph_a (nm := nm) (Z := (696444 + gB G, 7012917)) (Q := Q) (Ps := P1) (Ls := L1) hC hYI rfl hkp hten (fun nf m R T Ic Pc Lc hn hm hA hIm hTM =>
    ph_b hC rfl hm hn hTM.2.1 hTM.1 hTM.2.2.1 hIm hA (by omega) (fun Y1 Ic Pc Lc hY1 hA1 _ =>
    ph_c hC rfl hm hn hIm hA1 (by omega) (fun Y2 Ic Pc Lc hY2 hA2 _ =>
    ph_d hC rfl hm hn hTM.2.1 hIm hA2 (by omega) (fun Y3 Ic Pc Lc hY3 hA3 _ =>
    ph_e hC hn hTM.2.1 hIm hA3 (by omega) (fun Y4 Ic Pc Lc hY4 hA4 hB4 =>
    ph_f hC hn hTM.2.1 hA4 hB4 (by omega) (fun Ic Pc Lc hA5 hu5 =>
    ph_g hC hQ hn hTM hA5 hu5 (by omega)))))))
  rw [mg_self, mg_self, mg_self] at hh
  exact hh

