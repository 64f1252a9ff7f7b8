/-! calls that know less: what they do not know stays; the law's two worlds side by side -/
def mg {α : Type} (K : Nat → Option Kd) (f g : Nat → α) : Nat → α := fun a => if (K a).isSome = true then f a else g a
def MM {α : Type} (K1 K2 : Nat → Option Kd) (f g h : Nat → α) : Nat → α := fun a => if (K1 a).isSome = true then f a else if (K2 a).isSome = true then g a else h a
theorem mg_1 {α : Type} (K1 K2 : Nat → Option Kd) (f' f g h : Nat → α) : mg K1 f' (MM K1 K2 f g h) = MM K1 K2 f' g h := by
  funext a
  unfold mg MM
  by_cases h1 : (K1 a).isSome = true
  · rw [if_pos h1, if_pos h1]
  · rw [if_neg h1, if_neg h1, if_neg h1]
theorem mg_2 {α : Type} {K1 K2 : Nat → Option Kd} (hd : ∀ a, K1 a = none ∨ K2 a = none) (f g' g h : Nat → α) : mg K2 g' (MM K1 K2 f g h) = MM K1 K2 f g' h := by
  funext a
  unfold mg MM
  by_cases h2 : (K2 a).isSome = true
  · have h1 : ¬ (K1 a).isSome = true := by
      rcases hd a with h | h
      · rw [h]; decide
      · rw [h] at h2; exact absurd h2 (by decide)
    rw [if_pos h2, if_neg h1, if_pos h2]
  · rw [if_neg h2, if_neg h2, if_neg h2]
theorem MM_same {α : Type} (K1 K2 : Nat → Option Kd) (f : Nat → α) : MM K1 K2 f f f = f := by
  funext a
  unfold MM
  split
  · rfl
  · split <;> rfl
def SubM (C' C : CF) (Ic I : MI) (Pc P : MP) (Lc L : ML) : Prop := C'.2 = C.2 ∧ ∀ a kd, C'.1 a = some kd → C.1 a = some kd ∧ I a = Ic a ∧ P a = Pc a ∧ L a = Lc a
section SUBS
variable {G : WG} {y : MethodName} {cc : ByteArray} {mL : Nat} {rt : Option FieldType} {rk : Nat} {Z : Nat × Nat} {Q : Post} {pc : Nat} {ls : List (Option Value)} {st : List Value} {C C' : CF} {I Ic : MI} {P Pc : MP} {L Lc : ML}
theorem ch_sub {s : State} {sl0 : Nat × (Nat → Option Kd)} {H : Heap} {locs : List Loc} {cells slots : Nat} (hH : Ch G s sl0 Z C I P L H locs cells slots) (hS : SubM C' C Ic I Pc P Lc L) : Ch G s (sl0.1, fun _ => some (.inl 0)) Z C' Ic Pc Lc H locs cells slots := by
  obtain ⟨g1, g2, g3, g4, g5, g6, g7, g8⟩ := hH
  obtain ⟨s1, s2⟩ := hS
  refine ⟨fun a kd ha => ?_, by rw [s1]; exact g2, g3, by rw [s1]; exact g4, by rw [s1]; exact g5, by rw [s1]; exact g6, by rw [s1]; exact g7, fun q h1 h2 => by cases h2⟩
  obtain ⟨e1, e2, e3, e4⟩ := s2 a kd ha
  exact (g1 a kd e1).kept rfl (fun k => by rw [e2]) (fun k => by rw [e3]) (fun k => by rw [e4])
theorem ch_back {s : State} {sl0 : Nat × (Nat → Option Kd)} {H H1 : Heap} {locs locs1 : List Loc} {cells slots : Nat} {I1 : MI} {P1 : MP} {L1 : ML} (hH : Ch G s sl0 Z C I P L H locs cells slots) (hS : SubM C' C Ic I Pc P Lc L) (hR : Rep G s C'.1 I1 P1 L1 H1) (hz : H1.size = C'.2.1) (hS1 : va_S (gA G) s.heap H1 locs1) (hF : FrK C'.1 H C'.1 H1) : Ch G s sl0 Z C (mg C'.1 I1 I) (mg C'.1 P1 P) (mg C'.1 L1 L) H1 locs1 cells slots := by
  obtain ⟨g1, g2, g3, g4, g5, g6, g7, g8⟩ := hH
  obtain ⟨s1, s2⟩ := hS
  refine ⟨fun a kd ha => ?_, by rw [hz, s1], hS1, g4, g5, g6, g7, fun q h1 h2 => ⟨(g8 q h1 h2).1, ?_⟩⟩
  · cases hk : C'.1 a with
    | none =>
      have ho := g1 a kd ha
      have hn : ¬ (C'.1 a).isSome = true := by rw [hk]; decide
      refine ho.kept (hF a ho.lt hk).2 (fun k => ?_) (fun k => ?_) (fun k => ?_) <;> (unfold mg; rw [if_neg hn])
    | some kd' =>
      have he := (s2 a kd' hk).1
      rw [ha] at he
      cases he
      have hn : (C'.1 a).isSome = true := by rw [hk]; rfl
      refine (hR a kd hk).kept rfl (fun k => ?_) (fun k => ?_) (fun k => ?_) <;> (unfold mg; rw [if_pos hn])
  · cases hk : C'.1 q with
    | none => exact (hF q (Nat.lt_of_lt_of_le h1 g3.1) hk).2.trans (g8 q h1 h2).2
    | some kd' =>
      have he := (s2 q kd' hk).1
      rw [(g8 q h1 h2).1] at he
      cases he
variable {y' : MethodName} {cc' : ByteArray} {mL' : Nat} {rt' : Option FieldType} {n rk' idx b c : Nat} {As : List Value} {Q' : Post}
theorem i_Vf (ok : OkM y' cc' mL' rt' n) (hin : Cond.instanceMethod y' ∈ LW) (hsel : Cond.selects y'.cls y' y' ∈ LW) (hl : Cond.methodLink y.cls idx y' ∈ LW) (hd : decode cc pc = .ok (.invokevirtual idx, 3)) (hS : SubM C' C Ic I Pc P Lc L) (hK : C'.1 b = some (.inl c)) (hc : (vwCl[c]?).map (·.1) = some y'.cls) (hrk : rk' < rk) (hn : As.length = n) (hw : (st.map fun v => v.category).sum ≤ 8) (h : Sp G y' cc' mL' rt' rk' 0 0 (.ref b :: As) C' Ic Pc Lc Q') (k : ∀ (v : Option Value) (C1 : CF) (I1 : MI) (P1 : MP) (L1 : ML), Q' v C1 I1 P1 L1 → C1 = C' ∧ Wd G y cc mL rt rk Z Q (pc + 3) ls (v.toList ++ st) C (mg C'.1 I1 I) (mg C'.1 P1 P) (mg C'.1 L1 L)) : Wd G y cc mL rt rk Z Q pc ls (As.reverse ++ .ref b :: st) C I P L := by
  intro p l e R s m args below meth c0 Qm sl0 H locs cells slots arr hX hH0 hL
  have hH := ch_sub hH0 hS
  have hts := hX.2.2.2.2.1
  have hf : cells + 0 ≤ R.cells ∧ slots + 0 ≤ R.slots := by
    have h1 := hH0.2.2.2.1; have h2 := hH0.2.2.2.2.1; have h3 := hX.2.2.2.2.2.2.2.2.2.1; have h4 := hX.2.2.2.2.2.2.2.2.2.2.1; have h5 := hH0.2.2.2.2.2.1; have h6 := hH0.2.2.2.2.2.2.1; omega
  refine x_call (va_runV ⟨hX.1, hX.2.1, hX.2.2.1, hX.2.2.2.1, hts⟩ (h l) ⟨⟨rfl, rfl, (room_U hX.2.2.2.2.2.2.2.1 hX.2.2.2.2.2.2.2.2.1 hrk ok.2.2.2.2).1, (room_U (mc := 0) (ms := 0) hX.2.2.2.2.2.2.2.1 hX.2.2.2.2.2.2.2.2.1 hrk ok.2.2.2.2).2, ok_pay ok hts, List.mem_cons_self, hts _ ok.1, hts _ ok.2.1, ok.2.2.1, ok_len ok, hts _ hl⟩, hts _ hin, hts _ hsel⟩ ⟨pc_blind, recv_U hX.2.2.2.2.2.1 hH hK hc, fun U hU hW => pre_U hX.2.2.2.2.2.1 hX.2.2.2.2.2.2.1 hH hU hW⟩ rfl hn (hL.1) rfl (lv_room hw) hd hf) hH.2.2.1 (fun v C1 I1 P1 L1 H1 locs1 hq hR1 hz1 hS1 hF1 => ?_)
  obtain ⟨k1, k3⟩ := k v C1 I1 P1 L1 hq
  subst k1
  exact k3 p l e R s m args below meth c0 Qm sl0 H1 locs1 (cells + 0) (slots + 0) arr hX (ch_back hH0 hS hR1 hz1 hS1 hF1) hL
theorem i_V0if {q : Int → MI → MP → ML → Prop} (ok : OkM y' cc' mL' rt' 0) (hin : Cond.instanceMethod y' ∈ LW) (hsel : Cond.selects y'.cls y' y' ∈ LW) (hl : Cond.methodLink y.cls idx y' ∈ LW) (hd : decode cc pc = .ok (.invokevirtual idx, 3)) (hS : SubM C' C Ic I Pc P Lc L) (hK : C'.1 b = some (.inl c)) (hc : (vwCl[c]?).map (·.1) = some y'.cls) (hrk : rk' < rk) (hw : (st.map fun v => v.category).sum ≤ 8) (h : Sp G y' cc' mL' rt' rk' 0 0 [.ref b] C' Ic Pc Lc (NI C' q)) (k : ∀ (r : Int) (I1 : MI) (P1 : MP) (L1 : ML), q r I1 P1 L1 → Wd G y cc mL rt rk Z Q (pc + 3) ls (.int (zI r) :: st) C (mg C'.1 I1 I) (mg C'.1 P1 P) (mg C'.1 L1 L)) : Wd G y cc mL rt rk Z Q pc ls (.ref b :: st) C I P L := i_Vf (As := []) ok hin hsel hl hd hS hK hc hrk rfl hw h (fun v C1 I1 P1 L1 hq => by obtain ⟨rfl, r, rfl, hq⟩ := hq; exact ⟨rfl, k r I1 P1 L1 hq⟩)
theorem i_V0lf {q : Int → MI → MP → ML → Prop} (ok : OkM y' cc' mL' rt' 0) (hin : Cond.instanceMethod y' ∈ LW) (hsel : Cond.selects y'.cls y' y' ∈ LW) (hl : Cond.methodLink y.cls idx y' ∈ LW) (hd : decode cc pc = .ok (.invokevirtual idx, 3)) (hS : SubM C' C Ic I Pc P Lc L) (hK : C'.1 b = some (.inl c)) (hc : (vwCl[c]?).map (·.1) = some y'.cls) (hrk : rk' < rk) (hw : (st.map fun v => v.category).sum ≤ 8) (h : Sp G y' cc' mL' rt' rk' 0 0 [.ref b] C' Ic Pc Lc (NL C' q)) (k : ∀ (r : Int) (I1 : MI) (P1 : MP) (L1 : ML), q r I1 P1 L1 → Wd G y cc mL rt rk Z Q (pc + 3) ls (.long (zL r) :: st) C (mg C'.1 I1 I) (mg C'.1 P1 P) (mg C'.1 L1 L)) : Wd G y cc mL rt rk Z Q pc ls (.ref b :: st) C I P L := i_Vf (As := []) ok hin hsel hl hd hS hK hc hrk rfl hw h (fun v C1 I1 P1 L1 hq => by obtain ⟨rfl, r, rfl, hq⟩ := hq; exact ⟨rfl, k r I1 P1 L1 hq⟩)
theorem i_V1if {v0 : Value} {q : Int → MI → MP → ML → Prop} (ok : OkM y' cc' mL' rt' 1) (hin : Cond.instanceMethod y' ∈ LW) (hsel : Cond.selects y'.cls y' y' ∈ LW) (hl : Cond.methodLink y.cls idx y' ∈ LW) (hd : decode cc pc = .ok (.invokevirtual idx, 3)) (hS : SubM C' C Ic I Pc P Lc L) (hK : C'.1 b = some (.inl c)) (hc : (vwCl[c]?).map (·.1) = some y'.cls) (hrk : rk' < rk) (hw : (st.map fun v => v.category).sum ≤ 8) (h : Sp G y' cc' mL' rt' rk' 0 0 [.ref b, v0] C' Ic Pc Lc (NI C' q)) (k : ∀ (r : Int) (I1 : MI) (P1 : MP) (L1 : ML), q r I1 P1 L1 → Wd G y cc mL rt rk Z Q (pc + 3) ls (.int (zI r) :: st) C (mg C'.1 I1 I) (mg C'.1 P1 P) (mg C'.1 L1 L)) : Wd G y cc mL rt rk Z Q pc ls (v0 :: .ref b :: st) C I P L := i_Vf (As := [v0]) ok hin hsel hl hd hS hK hc hrk rfl hw h (fun v C1 I1 P1 L1 hq => by obtain ⟨rfl, r, rfl, hq⟩ := hq; exact ⟨rfl, k r I1 P1 L1 hq⟩)
theorem i_V1lf {v0 : Value} {q : Int → MI → MP → ML → Prop} (ok : OkM y' cc' mL' rt' 1) (hin : Cond.instanceMethod y' ∈ LW) (hsel : Cond.selects y'.cls y' y' ∈ LW) (hl : Cond.methodLink y.cls idx y' ∈ LW) (hd : decode cc pc = .ok (.invokevirtual idx, 3)) (hS : SubM C' C Ic I Pc P Lc L) (hK : C'.1 b = some (.inl c)) (hc : (vwCl[c]?).map (·.1) = some y'.cls) (hrk : rk' < rk) (hw : (st.map fun v => v.category).sum ≤ 8) (h : Sp G y' cc' mL' rt' rk' 0 0 [.ref b, v0] C' Ic Pc Lc (NL C' q)) (k : ∀ (r : Int) (I1 : MI) (P1 : MP) (L1 : ML), q r I1 P1 L1 → Wd G y cc mL rt rk Z Q (pc + 3) ls (.long (zL r) :: st) C (mg C'.1 I1 I) (mg C'.1 P1 P) (mg C'.1 L1 L)) : Wd G y cc mL rt rk Z Q pc ls (v0 :: .ref b :: st) C I P L := i_Vf (As := [v0]) ok hin hsel hl hd hS hK hc hrk rfl hw h (fun v C1 I1 P1 L1 hq => by obtain ⟨rfl, r, rfl, hq⟩ := hq; exact ⟨rfl, k r I1 P1 L1 hq⟩)
theorem i_V2if {v0 v1 : Value} {q : Int → MI → MP → ML → Prop} (ok : OkM y' cc' mL' rt' 2) (hin : Cond.instanceMethod y' ∈ LW) (hsel : Cond.selects y'.cls y' y' ∈ LW) (hl : Cond.methodLink y.cls idx y' ∈ LW) (hd : decode cc pc = .ok (.invokevirtual idx, 3)) (hS : SubM C' C Ic I Pc P Lc L) (hK : C'.1 b = some (.inl c)) (hc : (vwCl[c]?).map (·.1) = some y'.cls) (hrk : rk' < rk) (hw : (st.map fun v => v.category).sum ≤ 8) (h : Sp G y' cc' mL' rt' rk' 0 0 [.ref b, v0, v1] C' Ic Pc Lc (NI C' q)) (k : ∀ (r : Int) (I1 : MI) (P1 : MP) (L1 : ML), q r I1 P1 L1 → Wd G y cc mL rt rk Z Q (pc + 3) ls (.int (zI r) :: st) C (mg C'.1 I1 I) (mg C'.1 P1 P) (mg C'.1 L1 L)) : Wd G y cc mL rt rk Z Q pc ls (v1 :: v0 :: .ref b :: st) C I P L := i_Vf (As := [v0, v1]) ok hin hsel hl hd hS hK hc hrk rfl hw h (fun v C1 I1 P1 L1 hq => by obtain ⟨rfl, r, rfl, hq⟩ := hq; exact ⟨rfl, k r I1 P1 L1 hq⟩)
theorem i_V3if {v0 v1 v2 : Value} {q : Int → MI → MP → ML → Prop} (ok : OkM y' cc' mL' rt' 3) (hin : Cond.instanceMethod y' ∈ LW) (hsel : Cond.selects y'.cls y' y' ∈ LW) (hl : Cond.methodLink y.cls idx y' ∈ LW) (hd : decode cc pc = .ok (.invokevirtual idx, 3)) (hS : SubM C' C Ic I Pc P Lc L) (hK : C'.1 b = some (.inl c)) (hc : (vwCl[c]?).map (·.1) = some y'.cls) (hrk : rk' < rk) (hw : (st.map fun v => v.category).sum ≤ 8) (h : Sp G y' cc' mL' rt' rk' 0 0 [.ref b, v0, v1, v2] C' Ic Pc Lc (NI C' q)) (k : ∀ (r : Int) (I1 : MI) (P1 : MP) (L1 : ML), q r I1 P1 L1 → Wd G y cc mL rt rk Z Q (pc + 3) ls (.int (zI r) :: st) C (mg C'.1 I1 I) (mg C'.1 P1 P) (mg C'.1 L1 L)) : Wd G y cc mL rt rk Z Q pc ls (v2 :: v1 :: v0 :: .ref b :: st) C I P L := i_Vf (As := [v0, v1, v2]) ok hin hsel hl hd hS hK hc hrk rfl hw h (fun v C1 I1 P1 L1 hq => by obtain ⟨rfl, r, rfl, hq⟩ := hq; exact ⟨rfl, k r I1 P1 L1 hq⟩)
theorem i_V6if {v0 v1 v2 v3 v4 v5 : Value} {q : Int → MI → MP → ML → Prop} (ok : OkM y' cc' mL' rt' 6) (hin : Cond.instanceMethod y' ∈ LW) (hsel : Cond.selects y'.cls y' y' ∈ LW) (hl : Cond.methodLink y.cls idx y' ∈ LW) (hd : decode cc pc = .ok (.invokevirtual idx, 3)) (hS : SubM C' C Ic I Pc P Lc L) (hK : C'.1 b = some (.inl c)) (hc : (vwCl[c]?).map (·.1) = some y'.cls) (hrk : rk' < rk) (hw : (st.map fun v => v.category).sum ≤ 8) (h : Sp G y' cc' mL' rt' rk' 0 0 [.ref b, v0, v1, v2, v3, v4, v5] C' Ic Pc Lc (NI C' q)) (k : ∀ (r : Int) (I1 : MI) (P1 : MP) (L1 : ML), q r I1 P1 L1 → Wd G y cc mL rt rk Z Q (pc + 3) ls (.int (zI r) :: st) C (mg C'.1 I1 I) (mg C'.1 P1 P) (mg C'.1 L1 L)) : Wd G y cc mL rt rk Z Q pc ls (v5 :: v4 :: v3 :: v2 :: v1 :: v0 :: .ref b :: st) C I P L := i_Vf (As := [v0, v1, v2, v3, v4, v5]) ok hin hsel hl hd hS hK hc hrk rfl hw h (fun v C1 I1 P1 L1 hq => by obtain ⟨rfl, r, rfl, hq⟩ := hq; exact ⟨rfl, k r I1 P1 L1 hq⟩)
/-- two like numbers: the jump is taken -/
theorem r_jeq {v : Int32} {off : Int} (tgt : Nat) (hd : decode cc pc = .ok (.if_icmp .eq off, 3)) (ht : (pc : Int) + off = (tgt : Int)) (k1 : Wd G y cc mL rt rk Z Q tgt ls st C I P L) : Wd G y cc mL rt rk Z Q pc ls (.int v :: .int v :: st) C I P L := by
  intro p l e R s m args below meth c Qm sl0 H locs cells slots arr hX hH hL
  refine lv_icmp_eq hX.1 hX.2.1 hd ht (fun q => ?_) (fun q => absurd rfl q)
  exact k1 p l e R s m args below meth c Qm sl0 H locs cells slots arr hX hH hL
theorem r_jleq {v : Int64} {off : Int} (tgt : Nat) (hd : decode cc pc = .ok (.lcmp, 1)) (hd2 : decode cc (pc + 1) = .ok (.ifCond .eq off, 3)) (ht : ((pc + 1 : Nat) : Int) + off = (tgt : Int)) (k1 : Wd G y cc mL rt rk Z Q tgt ls st C I P L) : Wd G y cc mL rt rk Z Q pc ls (.long v :: .long v :: st) C I P L := by
  intro p l e R s m args below meth c Qm sl0 H locs cells slots arr hX hH hL
  refine W.lcmp hX.1 hX.2.1 hd (lv_if_eq hX.1 hX.2.1 hd2 ht (fun q => ?_) (fun q => absurd ?_ q))
  · exact k1 p l e R s m args below meth c Qm sl0 H locs cells slots arr hX hH hL
  · show lg_cmp v v = 0
    unfold lg_cmp
    have hn : ¬ v > v := by
      intro h
      first
        | exact Int64.lt_irrefl h
        | exact Int64.lt_irrefl v h
        | exact Int.lt_irrefl _ (Int64.lt_iff_toInt_lt.mp h)
        | exact absurd h (by simp)
    rw [if_neg hn, if_pos rfl]
end SUBS
/-- what stands fast in the law's loop -/
def LX (G : WG) (b L : Nat) (K1 K2 K : Nat → Option Kd) (n : Nat × Nat) (sx : Nat → Int) (Is : MI) : Prop := (∀ a kd, K1 a = some kd → K a = some kd) ∧ (∀ a kd, K2 a = some kd → K a = some kd) ∧ (∀ a, K1 a = none ∨ K2 a = none) ∧ K b = some (.inr (0, L)) ∧ L ≤ 3584 ∧ (∀ j, j < L → iR (sx j)) ∧ ∀ (Ic Im : MI) (Pc : MP) (Y : Int), YI G (K1, n) Ic Pc Y → ∀ j, j < L → MM K1 K2 Ic Im Is b j = sx j

