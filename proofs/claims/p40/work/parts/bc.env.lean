/-! the world as it stands when the law begins -/
theorem tx1 {i : Nat} {w : Cond} (e : tables_1_1[i]? = some w) : w ∈ lw_tbl := List.mem_append_right _ (by have h := List.mem_of_getElem? e; exact (List.mem_append_left _ h))
theorem tx2 {i : Nat} {w : Cond} (e : tables_1_2[i]? = some w) : w ∈ lw_tbl := List.mem_append_right _ (by have h := List.mem_of_getElem? e; exact (List.mem_append_right _ (List.mem_append_left _ h)))
theorem tx3 {i : Nat} {w : Cond} (e : tables_1_3[i]? = some w) : w ∈ lw_tbl := List.mem_append_right _ (by have h := List.mem_of_getElem? e; exact (List.mem_append_right _ (List.mem_append_right _ (List.mem_append_left _ h))))
theorem tx4 {i : Nat} {w : Cond} (e : tables_1_4[i]? = some w) : w ∈ lw_tbl := List.mem_append_right _ (by have h := List.mem_of_getElem? e; exact (List.mem_append_right _ (List.mem_append_right _ (List.mem_append_right _ h))))
theorem inst_ok : ∀ (c : Nat) (r : vw_C), vwCl[c]? = some r → ∃ n, Cond.instantiable r.1 n ∈ LW := by
  intro c r h
  match c, h with
  | 0, h => cases h; exact ⟨11, q91⟩
  | 1, h => cases h; exact ⟨5, q144⟩
  | 2, h => cases h; exact ⟨13, q135⟩
  | 3, h => cases h; exact ⟨0, q50⟩
  | 4, h => cases h; exact ⟨0, q64⟩
  | 5, h => cases h; exact ⟨5, q85⟩
  | 6, h => cases h; exact ⟨0, q71⟩
  | 7, h => cases h; exact ⟨7, q24⟩
  | 8, h => cases h; exact ⟨0, q78⟩
  | 9, h => cases h; exact ⟨0, q57⟩
  | 10, h => cases h; exact ⟨7, q245⟩
  | 11, h => cases h; exact ⟨13, q16⟩
  | c + 12, h => simp [vwCl] at h
theorem env_K {s : State} {args : Array Value} (hts : ∀ w ∈ lw_tbl, w.before args s = true) : ∃ D : va_G, ∀ (c : Nat) (q : vw_C), vwCl[c]? = some q → u_Kn s q.1 q.2.1 q.2.2 (D.1 c) (D.2 c) := by
  have hl : ∀ w ∈ LW, w.before args s = true := fun w hw => hts w (LW_tbl w hw)
  have h : ∀ c : Nat, ∃ d : ClassId × (Nat → Nat), ∀ q, vwCl[c]? = some q → u_Kn s q.1 q.2.1 q.2.2 d.1 d.2 := by
    intro c
    cases hq : vwCl[c]? with
    | none => exact ⟨(0, fun _ => 0), fun q h => by cases h⟩
    | some r =>
      obtain ⟨n, hn⟩ := inst_ok c r hq
      obtain ⟨cC, iS, hk⟩ := u_known hl (clOK c r hq).1 (hl _ hn)
      exact ⟨(cC, iS), fun q h => by cases h; exact hk⟩
  obtain ⟨f, hf⟩ := Classical.axiomOfChoice h
  exact ⟨(fun c => (f c).1, fun c => (f c).2), hf⟩
theorem arr_P {s : State} {args : Array Value} {ty : FieldType} (h : (Cond.arrayClass ty).before args s = true) : ∃ c, ArrOfT s c ty ∧ s.vm.findClass ("[" ++ ty.toString) = some c := by
  obtain ⟨c, k, comp, h1, h2, h3⟩ := Cond.arrayClass_spec (args := args) (first := s) (s := s) (o := none) (idx := []) h
  exact ⟨c, fun n z => ⟨fun q g => (by cases g), k, h2, comp, h3⟩, h1⟩
theorem arr_O {s : State} {args : Array Value} {E : String} (h : (Cond.arrayOver (.object E)).before args s = true) : ∃ c, ArrOfT s c (.object E) ∧ va_RA s c (.object E) := by
  obtain ⟨comp, c, k, h1, h2, h3, h4, h5⟩ := Cond.arrayOver_spec (args := args) (first := s) (s := s) (o := none) (idx := []) h
  exact ⟨c, fun n z => ⟨fun q g => (by cases g), k, h3, comp, h4⟩, k, comp, h3, h4, h1, h5⟩
theorem env_T {s : State} {args : Array Value} (hts : ∀ w ∈ lw_tbl, w.before args s = true) : ∃ gc : Nat → ClassId, ∀ t, t < 6 → ArrOfT s (gc t) (aty t) ∧ va_RA s (gc t) (aty t) := by
  obtain ⟨c0, a0, b0⟩ := arr_P (hts _ (tx1 (i := 47) rfl))
  obtain ⟨c2, a2, b2⟩ := arr_O (hts _ (tx1 (i := 134) rfl))
  obtain ⟨c3, a3, b3⟩ := arr_O (hts _ (tx1 (i := 141) rfl))
  obtain ⟨c4, a4, b4⟩ := arr_O (hts _ (tx1 (i := 49) rfl))
  refine ⟨fun t => if t = 2 then c2 else if t = 3 then c3 else if t = 4 then c4 else c0, fun t ht => ?_⟩
  match t, ht with
  | 0, _ => exact ⟨a0, b0⟩
  | 1, _ => exact ⟨a0, b0⟩
  | 2, _ => exact ⟨a2, b2⟩
  | 3, _ => exact ⟨a3, b3⟩
  | 4, _ => exact ⟨a4, b4⟩
  | 5, _ => exact ⟨a0, b0⟩
  | t + 6, h => exact absurd h (by omega)
theorem nw_in : ∀ w ∈ NWl, Cond.methodLinkNest w.1 w.2.1 w.2.2.1 w.2.2.2 ∈ lw_tbl := List.forall_mem_cons.mpr ⟨(tx1 (i := 25) rfl), List.forall_mem_cons.mpr ⟨(tx1 (i := 51) rfl), List.forall_mem_cons.mpr ⟨(tx1 (i := 58) rfl), List.forall_mem_cons.mpr ⟨(tx1 (i := 61) rfl), List.forall_mem_cons.mpr ⟨(tx1 (i := 65) rfl), List.forall_mem_cons.mpr ⟨(tx1 (i := 68) rfl), List.forall_mem_cons.mpr ⟨(tx1 (i := 72) rfl), List.forall_mem_cons.mpr ⟨(tx1 (i := 75) rfl), List.forall_mem_cons.mpr ⟨(tx1 (i := 79) rfl), List.forall_mem_cons.mpr ⟨(tx1 (i := 82) rfl), List.forall_mem_cons.mpr ⟨(tx1 (i := 92) rfl), List.forall_mem_cons.mpr ⟨(tx1 (i := 143) rfl), List.forall_mem_cons.mpr ⟨(tx2 (i := 112) rfl), List.forall_mem_cons.mpr ⟨(tx2 (i := 118) rfl), List.forall_mem_cons.mpr ⟨(tx2 (i := 142) rfl), List.forall_mem_cons.mpr ⟨(tx2 (i := 152) rfl), List.forall_mem_cons.mpr ⟨(tx3 (i := 60) rfl), List.forall_mem_cons.mpr ⟨(tx3 (i := 63) rfl), List.forall_mem_cons.mpr ⟨(tx3 (i := 65) rfl), List.forall_mem_cons.mpr ⟨(tx3 (i := 78) rfl), List.forall_mem_cons.mpr ⟨(tx3 (i := 136) rfl), List.forall_mem_cons.mpr ⟨(tx3 (i := 150) rfl), List.forall_mem_cons.mpr ⟨(tx3 (i := 199) rfl), fun _ h => absurd h List.not_mem_nil⟩⟩⟩⟩⟩⟩⟩⟩⟩⟩⟩⟩⟩⟩⟩⟩⟩⟩⟩⟩⟩⟩⟩
theorem cw_in : ∀ w ∈ CWl, Cond.castable w.1 w.2 ∈ lw_tbl := List.forall_mem_cons.mpr ⟨(tx4 (i := 30) rfl), List.forall_mem_cons.mpr ⟨(tx4 (i := 31) rfl), List.forall_mem_cons.mpr ⟨(tx4 (i := 32) rfl), List.forall_mem_cons.mpr ⟨(tx4 (i := 33) rfl), fun _ h => absurd h List.not_mem_nil⟩⟩⟩⟩
theorem ao_in : ∀ w ∈ AOl, Cond.arrayOver (.object w) ∈ lw_tbl := List.forall_mem_cons.mpr ⟨(tx1 (i := 134) rfl), List.forall_mem_cons.mpr ⟨(tx1 (i := 141) rfl), List.forall_mem_cons.mpr ⟨(tx1 (i := 49) rfl), fun _ h => absurd h List.not_mem_nil⟩⟩⟩
theorem start_env {s : State} {args : Array Value} (hts : ∀ w ∈ lw_tbl, w.before args s = true) : ∃ G : WG, gB G = s.heap.size ∧ EnvG G s := by
  obtain ⟨D, hD⟩ := env_K hts
  obtain ⟨gc, hgc⟩ := env_T hts
  refine ⟨(D, gc, s.heap.size, (fun _ => 0), (fun _ => 0), (fun _ => 0), none), rfl, ⟨hD, fun k q hk => ?_⟩, fun w hw => va_Nw.of rfl (hts _ (nw_in w hw)), fun w hw => va_Nw.of rfl (hts _ (cw_in w hw)), fun w hw => va_AO.of (hts _ (ao_in w hw)), trivial⟩
  match k, hk with
  | 0, hk => cases hk; exact hgc 0 (by decide)
  | 1, hk => cases hk; exact hgc 1 (by decide)
  | 2, hk => cases hk; exact hgc 2 (by decide)
  | 3, hk => cases hk; exact hgc 3 (by decide)
  | 4, hk => cases hk; exact hgc 4 (by decide)
  | 5, hk => cases hk; exact hgc 5 (by decide)
  | k + 6, hk => simp [tysG] at hk

