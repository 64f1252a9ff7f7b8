/-! the world as it stands when the law begins -/
theorem tx1 {i : Nat} {w : Cond} (e : tables_1_1[i]? = some w) : w ∈ lw_tbl := List.mem_append_right _ (by have h := List.mem_of_getElem? e; exact (List.mem_append_left _ h))
theorem tx2 {i : Nat} {w : Cond} (e : tables_1_2[i]? = some w) : w ∈ lw_tbl := List.mem_append_right _ (by have h := List.mem_of_getElem? e; exact (List.mem_append_right _ (List.mem_append_left _ h)))
theorem tx3 {i : Nat} {w : Cond} (e : tables_1_3[i]? = some w) : w ∈ lw_tbl := List.mem_append_right _ (by have h := List.mem_of_getElem? e; exact (List.mem_append_right _ (List.mem_append_right _ (List.mem_append_left _ h))))
theorem tx4 {i : Nat} {w : Cond} (e : tables_1_4[i]? = some w) : w ∈ lw_tbl := List.mem_append_right _ (by have h := List.mem_of_getElem? e; exact (List.mem_append_right _ (List.mem_append_right _ (List.mem_append_right _ (List.mem_append_left _ h)))))
theorem tx5 {i : Nat} {w : Cond} (e : tables_1_5[i]? = some w) : w ∈ lw_tbl := List.mem_append_right _ (by have h := List.mem_of_getElem? e; exact (List.mem_append_right _ (List.mem_append_right _ (List.mem_append_right _ (List.mem_append_right _ (List.mem_append_left _ h))))))
theorem tx6 {i : Nat} {w : Cond} (e : tables_1_6[i]? = some w) : w ∈ lw_tbl := List.mem_append_right _ (by have h := List.mem_of_getElem? e; exact (List.mem_append_right _ (List.mem_append_right _ (List.mem_append_right _ (List.mem_append_right _ (List.mem_append_right _ (List.mem_append_left _ h)))))))
theorem tx7 {i : Nat} {w : Cond} (e : tables_1_7[i]? = some w) : w ∈ lw_tbl := List.mem_append_right _ (by have h := List.mem_of_getElem? e; exact (List.mem_append_right _ (List.mem_append_right _ (List.mem_append_right _ (List.mem_append_right _ (List.mem_append_right _ (List.mem_append_right _ h)))))))
theorem inst_ok : ∀ (c : Nat) (r : vw_C), vwCl[c]? = some r → ∃ n, Cond.instantiable r.1 n ∈ LW := by
  intro c r h
  match c, h with
  | 0, h => cases h; exact ⟨11, q101⟩
  | 1, h => cases h; exact ⟨5, q156⟩
  | 2, h => cases h; exact ⟨13, q147⟩
  | 3, h => cases h; exact ⟨0, q60⟩
  | 4, h => cases h; exact ⟨0, q74⟩
  | 5, h => cases h; exact ⟨5, q95⟩
  | 6, h => cases h; exact ⟨0, q81⟩
  | 7, h => cases h; exact ⟨7, q29⟩
  | 8, h => cases h; exact ⟨0, q88⟩
  | 9, h => cases h; exact ⟨0, q67⟩
  | 10, h => cases h; exact ⟨7, q261⟩
  | 11, h => cases h; exact ⟨13, q21⟩
  | 12, h => cases h; exact ⟨18, q1028⟩
  | c + 13, h => simp [vwCl] at h
theorem env_K {s : State} {args : Array Value} (hts : ∀ w ∈ lw_tbl, w.before args s = true) : ∃ D : va_G, ∀ (c : Nat) (q : vw_C), vwCl[c]? = some q → u_Kn s q.1 q.2.1 q.2.2 (D.1 c) (D.2 c) := by
  have hl : ∀ w ∈ LW, w.before args s = true := fun w hw => hts w (LW_tbl w hw)
  have h : ∀ c : Nat, ∃ d : ClassId × (Nat → Nat), ∀ q, vwCl[c]? = some q → u_Kn s q.1 q.2.1 q.2.2 d.1 d.2 := by
    intro c
    cases hq : vwCl[c]? with
    | none => exact ⟨(0, fun _ => 0), fun q h => by cases h⟩
    | some r =>
      obtain ⟨n, hn⟩ := inst_ok c r hq
      obtain ⟨cC, iS, hk⟩ := u_known hl (clOK c r hq).1 (hl _ hn)
      exact ⟨(cC, iS), fun q h => by cases h; exact hk⟩
  obtain ⟨f, hf⟩ := Classical.axiomOfChoice h
  exact ⟨(fun c => (f c).1, fun c => (f c).2), hf⟩
theorem arr_P {s : State} {args : Array Value} {ty : FieldType} (h : (Cond.arrayClass ty).before args s = true) : ∃ c, ArrOfT s c ty ∧ s.vm.findClass ("[" ++ ty.toString) = some c := by
  obtain ⟨c, k, comp, h1, h2, h3⟩ := Cond.arrayClass_spec (args := args) (first := s) (s := s) (o := none) (idx := []) h
  exact ⟨c, fun n z => ⟨fun q g => (by cases g), k, h2, comp, h3⟩, h1⟩
theorem arr_O {s : State} {args : Array Value} {E : String} (h : (Cond.arrayOver (.object E)).before args s = true) : ∃ c, ArrOfT s c (.object E) ∧ va_RA s c (.object E) := by
  obtain ⟨comp, c, k, h1, h2, h3, h4, h5⟩ := Cond.arrayOver_spec (args := args) (first := s) (s := s) (o := none) (idx := []) h
  exact ⟨c, fun n z => ⟨fun q g => (by cases g), k, h3, comp, h4⟩, k, comp, h3, h4, h1, h5⟩
theorem env_T {s : State} {args : Array Value} (hts : ∀ w ∈ lw_tbl, w.before args s = true) : ∃ gc : Nat → ClassId, ∀ t, t < 6 → ArrOfT s (gc t) (aty t) ∧ va_RA s (gc t) (aty t) := by
  obtain ⟨c0, a0, b0⟩ := arr_P (hts _ (tx1 (i := 57) rfl))
  obtain ⟨c1, a1, b1⟩ := arr_P (hts _ (tx5 (i := 131) rfl))
  obtain ⟨c2, a2, b2⟩ := arr_O (hts _ (tx1 (i := 146) rfl))
  obtain ⟨c3, a3, b3⟩ := arr_O (hts _ (tx1 (i := 153) rfl))
  obtain ⟨c4, a4, b4⟩ := arr_O (hts _ (tx1 (i := 59) rfl))
  obtain ⟨c5, a5, b5⟩ := arr_P (hts _ (tx3 (i := 68) rfl))
  refine ⟨fun t => if t = 0 then c0 else if t = 1 then c1 else if t = 2 then c2 else if t = 3 then c3 else if t = 4 then c4 else c5, fun t ht => ?_⟩
  match t, ht with
  | 0, _ => exact ⟨a0, b0⟩
  | 1, _ => exact ⟨a1, b1⟩
  | 2, _ => exact ⟨a2, b2⟩
  | 3, _ => exact ⟨a3, b3⟩
  | 4, _ => exact ⟨a4, b4⟩
  | 5, _ => exact ⟨a5, b5⟩
  | t + 6, h => exact absurd h (by omega)
theorem nw_in : ∀ w ∈ NWl, Cond.methodLinkNest w.1 w.2.1 w.2.2.1 w.2.2.2 ∈ lw_tbl := List.forall_mem_cons.mpr ⟨(tx1 (i := 30) rfl), List.forall_mem_cons.mpr ⟨(tx1 (i := 61) rfl), List.forall_mem_cons.mpr ⟨(tx1 (i := 68) rfl), List.forall_mem_cons.mpr ⟨(tx1 (i := 71) rfl), List.forall_mem_cons.mpr ⟨(tx1 (i := 75) rfl), List.forall_mem_cons.mpr ⟨(tx1 (i := 78) rfl), List.forall_mem_cons.mpr ⟨(tx1 (i := 82) rfl), List.forall_mem_cons.mpr ⟨(tx1 (i := 85) rfl), List.forall_mem_cons.mpr ⟨(tx1 (i := 89) rfl), List.forall_mem_cons.mpr ⟨(tx1 (i := 92) rfl), List.forall_mem_cons.mpr ⟨(tx1 (i := 102) rfl), List.forall_mem_cons.mpr ⟨(tx1 (i := 155) rfl), List.forall_mem_cons.mpr ⟨(tx2 (i := 158) rfl), List.forall_mem_cons.mpr ⟨(tx2 (i := 178) rfl), List.forall_mem_cons.mpr ⟨(tx2 (i := 185) rfl), List.forall_mem_cons.mpr ⟨(tx3 (i := 41) rfl), List.forall_mem_cons.mpr ⟨(tx3 (i := 62) rfl), List.forall_mem_cons.mpr ⟨(tx3 (i := 65) rfl), List.forall_mem_cons.mpr ⟨(tx3 (i := 77) rfl), List.forall_mem_cons.mpr ⟨(tx3 (i := 91) rfl), List.forall_mem_cons.mpr ⟨(tx3 (i := 101) rfl), List.forall_mem_cons.mpr ⟨(tx4 (i := 20) rfl), List.forall_mem_cons.mpr ⟨(tx4 (i := 21) rfl), List.forall_mem_cons.mpr ⟨(tx4 (i := 23) rfl), List.forall_mem_cons.mpr ⟨(tx4 (i := 34) rfl), List.forall_mem_cons.mpr ⟨(tx4 (i := 123) rfl), List.forall_mem_cons.mpr ⟨(tx5 (i := 61) rfl), List.forall_mem_cons.mpr ⟨(tx5 (i := 66) rfl), fun _ h => absurd h List.not_mem_nil⟩⟩⟩⟩⟩⟩⟩⟩⟩⟩⟩⟩⟩⟩⟩⟩⟩⟩⟩⟩⟩⟩⟩⟩⟩⟩⟩⟩
theorem cw_in : ∀ w ∈ CWl, Cond.castable w.1 w.2 ∈ lw_tbl := List.forall_mem_cons.mpr ⟨(tx7 (i := 38) rfl), List.forall_mem_cons.mpr ⟨(tx7 (i := 39) rfl), List.forall_mem_cons.mpr ⟨(tx7 (i := 40) rfl), List.forall_mem_cons.mpr ⟨(tx7 (i := 41) rfl), fun _ h => absurd h List.not_mem_nil⟩⟩⟩⟩
theorem ao_in : ∀ w ∈ AOl, Cond.arrayOver (.object w) ∈ lw_tbl := List.forall_mem_cons.mpr ⟨(tx1 (i := 146) rfl), List.forall_mem_cons.mpr ⟨(tx1 (i := 153) rfl), List.forall_mem_cons.mpr ⟨(tx1 (i := 59) rfl), fun _ h => absurd h List.not_mem_nil⟩⟩⟩
abbrev gvC : Jvm.Cond := Jvm.Cond.and given_1 narrow_1
def tmS (i : Nat) : Term := .string "LongYear$Reader" ([86, 92, 94, 96, 98].getD i 0)
abbrev tmN : Term := .static "LongYear$Reader" "NUMBERS" "[I"
abbrev tmL : Term := .static "LongYear$Reader" "LEAST" "[I"
abbrev tmM : Term := .static "LongYear$Reader" "MOST" "[I"
theorem el_N : ∀ j : Fin 5, Cond.eq (.elem tmN (.int (Int32.ofNat j.val))) (.int (zI (atT numsT j.val))) ∈ flatC gvC := by decide +kernel
theorem el_L : ∀ j : Fin 15, Cond.eq (.elem tmL (.int (Int32.ofNat j.val))) (.int (zI (atT leastT j.val))) ∈ flatC gvC := by decide +kernel
theorem el_M : ∀ j : Fin 15, Cond.eq (.elem tmM (.int (Int32.ofNat j.val))) (.int (zI (atT mostT j.val))) ∈ flatC gvC := by decide +kernel
theorem ar_N : Cond.arrayOf tmN .int ∈ flatC gvC ∧ Cond.eq (.length tmN) (.int (Int32.ofNat 5)) ∈ flatC gvC := by decide +kernel
theorem ar_L : Cond.arrayOf tmL .int ∈ flatC gvC ∧ Cond.eq (.length tmL) (.int (Int32.ofNat 15)) ∈ flatC gvC := by decide +kernel
theorem ar_M : Cond.arrayOf tmM .int ∈ flatC gvC ∧ Cond.eq (.length tmM) (.int (Int32.ofNat 15)) ∈ flatC gvC := by decide +kernel
theorem ne_b : Cond.not (.eq (.arg 0) tmN) ∈ flatC gvC ∧ Cond.not (.eq (.arg 0) tmL) ∈ flatC gvC ∧ Cond.not (.eq (.arg 0) tmM) ∈ flatC gvC := by decide +kernel
theorem zs_in : Cond.eq (.static "java/lang/String" "COMPACT_STRINGS" "Z") (.int 1) ∈ flatC gvC ∧ Cond.isRef (.static "jdk/internal/util/Preconditions" "SIOOBE_FORMATTER" "Ljava/util/function/BiFunction;") ∈ flatC gvC := by decide +kernel
theorem tx_ex : ∀ i : Fin 5, Cond.exactly (tmS i.val) "java/lang/String" ∈ flatC gvC ∧ Cond.eq (.field (tmS i.val) "java/lang/String" "coder" "B") (.int 0) ∈ flatC gvC ∧ Cond.arrayOf (.field (tmS i.val) "java/lang/String" "value" "[B") .byte ∈ flatC gvC ∧ Cond.eq (.length (.field (tmS i.val) "java/lang/String" "value" "[B")) (.int (Int32.ofNat (slen.getD i.val 0))) ∈ flatC gvC := by decide +kernel
theorem tx_el : ∀ i : Fin 5, ∀ j : Fin 6, j.val < slen.getD i.val 0 → Cond.eq (.elem (.field (tmS i.val) "java/lang/String" "value" "[B") (.int (Int32.ofNat j.val))) (.int ((sbyt.getD i.val []).getD j.val 0)) ∈ flatC gvC := by decide +kernel
theorem tx_ne : ∀ i j : Fin 5, i.val ≠ j.val → Cond.not (.eq (tmS i.val) (tmS j.val)) ∈ flatC gvC ∨ Cond.not (.eq (tmS j.val) (tmS i.val)) ∈ flatC gvC := by decide +kernel
theorem sl_6 : ∀ i : Fin 5, slen.getD i.val 0 ≤ 6 := by decide
theorem start_env {s : State} {b : Nat} (hts : ∀ w ∈ lw_tbl, w.before #[Value.ref b] s = true) (hgv : gvC.before #[Value.ref b] s = true) : ∃ G : WG, gB G = s.heap.size ∧ EnvG G s ∧ (va_T .int (gT G 0) 5 (fun j => .int (zI (atT numsT j))) (gA G) s s.heap ∧ va_T .int (gT G 1) 15 (fun j => .int (zI (atT leastT j))) (gA G) s s.heap ∧ va_T .int (gT G 2) 15 (fun j => .int (zI (atT mostT j))) (gA G) s s.heap) ∧ (b ≠ gT G 0 ∧ b ≠ gT G 1 ∧ b ≠ gT G 2) := by
  have hs := flat_of_before _ hgv
  have hA : ∀ a : Nat, a < s.heap.size → ¬ (fun q : Nat => s.heap.size ≤ q) a := fun a h => Nat.not_le.mpr h
  obtain ⟨D, hD⟩ := env_K hts
  obtain ⟨gc, hgc⟩ := env_T hts
  obtain ⟨t0, e0, r0⟩ := va_Tof (tm := tmN) (ty := .int) (N := 5) (f := fun j => .int (zI (atT numsT j))) (by decide) (hs _ ar_N.1) (va_eqt (hs _ ar_N.2)) (fun j hj => va_eqt (hs _ (el_N ⟨j, hj⟩))) hA
  obtain ⟨t1, e1, r1⟩ := va_Tof (tm := tmL) (ty := .int) (N := 15) (f := fun j => .int (zI (atT leastT j))) (by decide) (hs _ ar_L.1) (va_eqt (hs _ ar_L.2)) (fun j hj => va_eqt (hs _ (el_L ⟨j, hj⟩))) hA
  obtain ⟨t2, e2, r2⟩ := va_Tof (tm := tmM) (ty := .int) (N := 15) (f := fun j => .int (zI (atT mostT j))) (by decide) (hs _ ar_M.1) (va_eqt (hs _ ar_M.2)) (fun j hj => va_eqt (hs _ (el_M ⟨j, hj⟩))) hA
  obtain ⟨adK, adV, hK, hR⟩ := vk_Sof (N := 5) (tm := tmS) (len := slen) (byt := sbyt) (fun i hi => Nat.lt_of_le_of_lt (sl_6 ⟨i, hi⟩) (by decide)) (fun i hi => hs _ (tx_ex ⟨i, hi⟩).1) (fun i hi => hs _ (tx_ex ⟨i, hi⟩).2.1) (fun i hi => hs _ (tx_ex ⟨i, hi⟩).2.2.1) (fun i hi => hs _ (tx_ex ⟨i, hi⟩).2.2.2) (fun i hi j hj => hs _ (tx_el ⟨i, hi⟩ ⟨j, Nat.lt_of_lt_of_le hj (sl_6 ⟨i, hi⟩)⟩ hj)) (fun i j hi hj hij => (tx_ne ⟨i, hi⟩ ⟨j, hj⟩ hij).imp (hs _) (hs _)) hA
  have z0 := va_Zref (hts _ (tx3 (i := 20) rfl)) (hts _ (LW_tbl _ q2)) e0 hA
  have z1 := va_Zref (hts _ (tx3 (i := 28) rfl)) (hts _ (LW_tbl _ q2)) e1 hA
  have z2 := va_Zref (hts _ (tx3 (i := 26) rfl)) (hts _ (LW_tbl _ q2)) e2 hA
  have z3 := va_Zof (hts _ (tx2 (i := 216) rfl)) (hts _ (LW_tbl _ q14)) (va_eqi (hs _ zs_in.1)) hA
  obtain ⟨gz, z4⟩ : ∃ gz : Option Nat, va_Z "jdk/internal/util/Preconditions" "SIOOBE_FORMATTER" "Ljava/util/function/BiFunction;" (va_rf gz) (fun q : Nat => s.heap.size ≤ q) s s.heap := by
    rcases va_Zqof (hts _ (tx2 (i := 232) rfl)) (hts _ (LW_tbl _ q16)) (hs _ zs_in.2) hA with h | ⟨t, h⟩
    · exact ⟨none, h⟩
    · exact ⟨some t, h⟩
  refine ⟨(D, gc, s.heap.size, (fun i => if i = 0 then t0 else if i = 1 then t1 else t2), adK, adV, gz), rfl, ⟨⟨hD, fun k q hk => ?_⟩, fun w hw => va_Nw.of rfl (hts _ (nw_in w hw)), fun w hw => va_Nw.of rfl (hts _ (cw_in w hw)), fun w hw => va_AO.of (hts _ (ao_in w hw)), ?_, hK, fun i q hi => ?_⟩, ⟨r0, r1, r2⟩, va_neR (hs _ ne_b.1) rfl e0, va_neR (hs _ ne_b.2.1) rfl e1, va_neR (hs _ ne_b.2.2) rfl e2⟩
  · match k, hk with
    | 0, hk => cases hk; exact hgc 0 (by decide)
    | 1, hk => cases hk; exact hgc 1 (by decide)
    | 2, hk => cases hk; exact hgc 2 (by decide)
    | 3, hk => cases hk; exact hgc 3 (by decide)
    | 4, hk => cases hk; exact hgc 4 (by decide)
    | 5, hk => cases hk; exact hgc 5 (by decide)
    | k + 6, hk => simp [tysG] at hk
  · intro z hz
    have h5 : z ∈ [(RX7, "NUMBERS", "[I", Value.ref t0), (RX7, "LEAST", "[I", .ref t1), (RX7, "MOST", "[I", .ref t2), ("java/lang/String", "COMPACT_STRINGS", "Z", .int 1), ("jdk/internal/util/Preconditions", "SIOOBE_FORMATTER", "Ljava/util/function/BiFunction;", va_rf gz)] := hz
    simp only [List.mem_cons, List.not_mem_nil, or_false] at h5
    rcases h5 with rfl | rfl | rfl | rfl | rfl
    · exact z0
    · exact z1
    · exact z2
    · exact z3
    · exact z4
  · match i, hi with
    | 0, hi => cases hi; exact vk_R.of (hts _ (tx2 (i := 202) rfl)) (hR 0 (by decide))
    | 1, hi => cases hi; exact vk_R.of (hts _ (tx3 (i := 15) rfl)) (hR 1 (by decide))
    | 2, hi => cases hi; exact vk_R.of (hts _ (tx3 (i := 16) rfl)) (hR 2 (by decide))
    | 3, hi => cases hi; exact vk_R.of (hts _ (tx3 (i := 17) rfl)) (hR 3 (by decide))
    | 4, hi => cases hi; exact vk_R.of (hts _ (tx3 (i := 18) rfl)) (hR 4 (by decide))
    | i + 5, hi => simp [stxl] at hi

