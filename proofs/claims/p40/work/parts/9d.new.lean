/-! making cells: objects, rows; constructors -/
theorem u1_e {α : Type} (f : Nat → Nat → α) (a : Nat) (v : α) (j : Nat) : u1 f a v a j = v := by unfold u1; rw [if_pos rfl]
theorem u1_n {α : Type} (f : Nat → Nat → α) {a x : Nat} (v : α) (h : x ≠ a) : u1 f a v x = f x := by funext j; unfold u1; rw [if_neg h]
theorem u1_r {α : Type} (f : Nat → Nat → α) (a : Nat) (v : α) : u1 f a v a = fun _ => v := by funext j; unfold u1; rw [if_pos rfl]
theorem u2_n {α : Type} (f : Nat → Nat → α) {a x : Nat} (k : Nat) (v : α) (h : x ≠ a) : u2 f a k v x = f x := by funext j; exact u2_a f k j v h
theorem uK_e (K : Nat → Option Kd) (a : Nat) (kd : Kd) : uK K a kd a = some kd := by unfold uK; rw [if_pos rfl]
theorem uK_n (K : Nat → Option Kd) {a x : Nat} (kd : Kd) (h : x ≠ a) : uK K a kd x = K x := by unfold uK; rw [if_neg h]
section NEWS
variable {G : WG} {y : MethodName} {cc : ByteArray} {mL : Nat} {rt : Option FieldType} {rk : Nat} {Z : Nat × Nat} {Q : Post} {pc : Nat} {ls : List (Option Value)} {st : List Value} {C : CF} {I : MI} {P : MP} {L : ML}
theorem r_obj {idx a : Nat} (hl : Cond.methodLink y.cls idx ⟨"java/lang/Object", "<init>", "()V"⟩ ∈ LW) (hd : decode cc pc = .ok (.invokespecial idx, 3)) (hrk : 1 ≤ rk) (hw : (st.map fun v => v.category).sum ≤ 8) (k : Wd G y cc mL rt rk Z Q (pc + 3) ls st C I P L) : Wd G y cc mL rt rk Z Q pc ls (.ref a :: st) C I P L := by
  intro p l e R s m args below meth c0 Qm sl0 H locs cells slots arr hX hH hL
  have hts := hX.2.2.2.2.1
  have h7 := hX.2.2.2.2.2.2.2.1; have h8 := hX.2.2.2.2.2.2.2.2.1
  have h9 := lv_room (m := m) (pc := pc) (ls := arr) (rest := st) hw
  exact W.objInit hX.1 hX.2.1 hX.2.2.2.1 (hts _ hl) (hts _ q21) (hts _ q22) rfl (hL.1.trans hX.2.2.1.symm) rfl hd (by omega) (by have h10 : 2 * (F0 m pc arr (.ref a :: st)).monitorRoom + (st.map fun v => v.category).sum ≤ 8 := h9; omega) (k p l e R s m args below meth c0 Qm sl0 H locs cells slots arr hX hH hL)
theorem r_newI {N : Nat} {x : Int} (hd : decode cc pc = .ok (.newarray .int, 2)) (hx : x = (N : Int)) (hN : N ≤ 1000) (hz1 : C.2.1 + 1 ≤ Z.1) (hz2 : C.2.2 + N ≤ Z.2) (k : Wd G y cc mL rt rk Z Q (pc + 2) ls (.ref C.2.1 :: st) (uK C.1 C.2.1 (.inr (0, N)), C.2.1 + 1, C.2.2 + N) (u1 I C.2.1 0) (u1 P C.2.1 none) (u1 L C.2.1 0)) : Wd G y cc mL rt rk Z Q pc ls (.int (zI x) :: st) C I P L := by
  subst hx
  intro p l e R s m args below meth c0 Qm sl0 H locs cells slots arr hX hH hL
  have hts := hX.2.2.2.2.1
  have hi : iR (N : Int) := ⟨by omega, by omega⟩
  have h1 := hH.2.2.2.1; have h2 := hH.2.2.2.2.1; have h3 := hX.2.2.2.2.2.2.2.2.2.1; have h4 := hX.2.2.2.2.2.2.2.2.2.2.1
  refine va_newaK (atype := .int) (N := N) hX.1 hX.2.1 (hts _ q47) rfl hd rfl (zI_nneg hi) (zI_clamp hi) (by show N * 4 ≤ _; omega) (by omega) (by omega) hH.2.1 fun H1 cA e1 z1 o1 hAr hNm => ?_
  have hra : s.vm.findClass ("[" ++ (FieldType.int).toString) = some (gC G 0) := (hX.2.2.2.2.2.1.1.2 0 _ (tysG_at G (t := 0) (by decide))).2
  have hcl : cA = gC G 0 := Option.some.inj (hNm.symm.trans hra)
  refine k p l e R s m args below meth c0 Qm sl0 H1 locs (cells + 1) (slots + N) arr hX (ch_new hH hX.2.2.2.2.2.2.1 z1 o1 ⟨_, e1, hAr _ _, (fun h => by cases h), (Nat.le_of_eq (arrV_size _ _ _).symm), (by rw [arrV_size]; first | done | rfl), fun j hj => ?_, fun _ => hcl⟩ (fun b j hb => ⟨by unfold u1; rw [if_neg hb], by unfold u1; rw [if_neg hb], by unfold u1; rw [if_neg hb]⟩) hz1 hz2) hL
  show (arrV cA N fun _ => .int 0).slots[j]? = some (.int (zI (u1 I C.2.1 0 C.2.1 j)))
  rw [u1_e, zI_0]
  simp [arrV, hj]
theorem r_anew {t N idx : Nat} {E : String} {x : Int} (hE : aty t = .object E) (ht : t < 6) (hq : Cond.classLink y.cls idx E ∈ LW) (hAO : E ∈ AOl) (hd : decode cc pc = .ok (.anewarray idx, 3)) (hx : x = (N : Int)) (hN : N ≤ 1000) (hz1 : C.2.1 + 1 ≤ Z.1) (hz2 : C.2.2 + N ≤ Z.2) (k : Wd G y cc mL rt rk Z Q (pc + 3) ls (.ref C.2.1 :: st) (uK C.1 C.2.1 (.inr (t, N)), C.2.1 + 1, C.2.2 + N) (u1 I C.2.1 0) (u1 P C.2.1 none) (u1 L C.2.1 0)) : Wd G y cc mL rt rk Z Q pc ls (.int (zI x) :: st) C I P L := by
  subst hx
  intro p l e R s m args below meth c0 Qm sl0 H locs cells slots arr hX hH hL
  have hts := hX.2.2.2.2.1
  have hi : iR (N : Int) := ⟨by omega, by omega⟩
  have hcl := zI_clamp hi
  have h1 := hH.2.2.2.1; have h2 := hH.2.2.2.2.1; have h3 := hX.2.2.2.2.2.2.2.2.2.1; have h4 := hX.2.2.2.2.2.2.2.2.2.2.1
  have hra := (hX.2.2.2.2.2.1.1.2 t _ (tysG_at G ht)).2
  simp only [hE] at hra
  obtain ⟨-, -, -, -, -, hra⟩ := hra
  refine W.anew hX.1 hX.2.1 hX.2.2.2.1 (hts _ hq) (va_AO.use (hX.2.2.2.2.2.1.2.2.2.1 E hAO)) rfl hd rfl (zI_nneg hi) (by rw [hcl]; omega) (by omega) (by rw [hcl]; omega) fun cA kA comp f1 f2 f3 f4 => ?_
  rw [hcl, hH.2.1]
  refine k p l e R s m args below meth c0 Qm sl0 _ locs (cells + 1) (slots + N) arr hX (ch_new hH hX.2.2.2.2.2.2.1 (by rw [Array.size_push, hH.2.1]) (fun q hq => by rw [Array.getElem?_push, if_neg (by rw [hH.2.1]; exact Nat.ne_of_lt hq)]) ⟨_, (by rw [Array.getElem?_push, if_pos hH.2.1.symm]), ⟨(fun q h => by cases h), kA, f2, comp, by rw [hE]; exact f3⟩, (fun h => by cases h), by simp, (by simp; first | done | rfl), fun j hj => ?_, fun _ => Option.some.inj (f1.symm.trans hra)⟩ (fun b j hb => ⟨by unfold u1; rw [if_neg hb], by unfold u1; rw [if_neg hb], by unfold u1; rw [if_neg hb]⟩) hz1 hz2) hL
  rw [hE]
  show (Array.replicate N Value.null)[j]? = some (va_rf (u1 P C.2.1 none C.2.1 j))
  rw [u1_e]
  simp [va_rf, hj]
theorem r_aast {a n j t b cb : Nat} {E : String} {x : Int} {r : vw_C} (hd : decode cc pc = .ok (.aastore, 1)) (hK : C.1 a = some (.inr (t, n))) (hE : aty t = .object E) (ht : t < 6) (hB : gB G ≤ a) (hx : x = (j : Int)) (hj : j < n) (h31 : n ≤ 1000000) (hKb : C.1 b = some (.inl cb)) (hr : vwCl[cb]? = some r) (hca : r.1 = E ∨ (r.1, E) ∈ CWl) (k1 : Wd G y cc mL rt rk Z Q (pc + 1) ls st C I (u2 P a j (some b)) L) : Wd G y cc mL rt rk Z Q pc ls (.ref b :: .int (zI x) :: .ref a :: st) C I P L := by
  intro p l e R s m args below meth c0 Qm sl0 H locs cells slots arr hX hH hL
  obtain ⟨cell, e1, e2, e3, e4, e5, e6, e7⟩ := hH.1 a _ hK
  obtain ⟨hin, hc⟩ := ix_in hx hj e4 h31
  obtain ⟨r', hr', cellV, g1, g2, g3, -⟩ := hH.1 b _ hKb
  have hrr : r' = r := Option.some.inj (hr'.symm.trans hr)
  subst hrr
  have hcls := (hX.2.2.2.2.2.1.1.1 cb r' hr).2
  have hra := (hX.2.2.2.2.2.1.1.2 t _ (tysG_at G ht)).2
  simp only [hE] at hra
  obtain ⟨kA, comp, k1', k2', k3', -⟩ := hra
  obtain ⟨kE, hkE, -⟩ := Vm.findClass_spec k3'
  obtain ⟨kC, hkC, -⟩ := hcls.2
  have hass : s.vm.assignable cellV.cls comp = true := by
    rw [g2]
    rcases hca with hca | hca
    · have hcomp : comp = (gD G).1 cb := Option.some.inj (k3'.symm.trans (by rw [← hca]; exact hcls.1))
      rw [hcomp]
      exact va_assign hcls
    · obtain ⟨c1, t1, f1, f2, f3⟩ := Cond.castable_spec (va_Nw.use (A := args) rfl (hX.2.2.2.2.2.1.2.2.1 _ hca))
      cases hcls.1.symm.trans f1
      cases k3'.symm.trans f2
      exact f3
  refine W.aast hX.1 hX.2.1 e1 e2.1 e3 (by rw [e7 hB]; exact k1') k2' rfl hkE ⟨fun q => hin (Or.inl q), by have := fun q => hin (Or.inr q); omega⟩ g1 (fun q h => by rw [g3] at h; cases h) (by rw [g2]; exact hkC) hass rfl rfl hd fun H' f1 f2 f3 => ?_
  rw [hc] at f1
  exact k1 p l e R s m args below meth c0 Qm sl0 H' _ cells slots arr hX (ch_ast hH hB hK hj e1 e2 e3 e4 e5 e6 e7 (by rw [hE]; show va_rf (u2 P a j (some b) a j) = _; rw [u2_s]; rfl) (fun b k h => ⟨rfl, by unfold u2; rw [if_neg h]⟩) f1 f2 f3) hL
/-- what a constructor leaves: n new cells, ms new slots, all older cells but its own as they were -/
def NC (a n ms : Nat) (C : CF) (I : MI) (P : MP) (L : ML) (q : CF → MI → MP → ML → Prop) : Post := fun v C1 I1 P1 L1 => v = none ∧ (C1.2.1 = C.2.1 + n ∧ C1.2.2 = C.2.2 + ms) ∧ (∀ x, x < C.2.1 → C1.1 x = C.1 x) ∧ (∀ x, x < C.2.1 → x ≠ a → I1 x = I x ∧ P1 x = P x ∧ L1 x = L x) ∧ q C1 I1 P1 L1
theorem en_C {a n ms : Nat} {args : List Value} {q : CF → MI → MP → ML → Prop} (hy : plainName y.cls = true) (hfit : (lg_sl args).length ≤ mL) (h : Wd G y cc mL none rk (C.2.1 + n, C.2.2 + ms) (NC a n ms C I P L q) 0 (ls0 mL args) [] C I P L) : Sp G y cc mL none rk n ms args C I P L (NC a n ms C I P L q) := sp_of hy hfit (fun _ _ _ _ _ h => h.2.1) h
variable {y' : MethodName} {cc' : ByteArray} {mL' : Nat} {rk' mc ms idx b : Nat}
theorem i_I0c {q' : CF → MI → MP → ML → Prop} (ok : OkM y' cc' mL' none 0) (hy : y'.name = "<init>") (hin : Cond.instanceMethod y' ∈ LW) (hl : Cond.methodLink y.cls idx y' ∈ LW) (hd : decode cc pc = .ok (.invokespecial idx, 3)) (hrk : rk' < rk) (hw : (st.map fun v => v.category).sum ≤ 8) (hmc : C.2.1 + mc ≤ Z.1) (hms : C.2.2 + ms ≤ Z.2) (h : Sp G y' cc' mL' none rk' mc ms [.ref b] C I P L (NC b mc ms C I P L q')) (k : ∀ (C1 : CF) (I1 : MI) (P1 : MP) (L1 : ML), C1.2.1 = C.2.1 + mc → C1.2.2 = C.2.2 + ms → (∀ x, x < C.2.1 → C1.1 x = C.1 x) → (∀ x, x < C.2.1 → x ≠ b → I1 x = I x ∧ P1 x = P x ∧ L1 x = L x) → q' C1 I1 P1 L1 → Wd G y cc mL rt rk Z Q (pc + 3) ls st C1 I1 P1 L1) : Wd G y cc mL rt rk Z Q pc ls (.ref b :: st) C I P L := i_I (As := []) ok hy hin hl hd hrk rfl hw hmc hms h (fun v C1 I1 P1 L1 hq => by obtain ⟨rfl, h1, h2, h3, h4⟩ := hq; exact ⟨h1.1, h1.2, k C1 I1 P1 L1 h1.1 h1.2 h2 h3 h4⟩)
theorem i_IN0c {q' : CF → MI → MP → ML → Prop} {host : String} (ok : OkM y' cc' mL' none 0) (hy : y'.name = "<init>") (hin : Cond.instanceMethod y' ∈ LW) (hl : (y.cls, idx, y', host) ∈ NWl) (hd : decode cc pc = .ok (.invokespecial idx, 3)) (hrk : rk' < rk) (hw : (st.map fun v => v.category).sum ≤ 8) (hmc : C.2.1 + mc ≤ Z.1) (hms : C.2.2 + ms ≤ Z.2) (h : Sp G y' cc' mL' none rk' mc ms [.ref b] C I P L (NC b mc ms C I P L q')) (k : ∀ (C1 : CF) (I1 : MI) (P1 : MP) (L1 : ML), C1.2.1 = C.2.1 + mc → C1.2.2 = C.2.2 + ms → (∀ x, x < C.2.1 → C1.1 x = C.1 x) → (∀ x, x < C.2.1 → x ≠ b → I1 x = I x ∧ P1 x = P x ∧ L1 x = L x) → q' C1 I1 P1 L1 → Wd G y cc mL rt rk Z Q (pc + 3) ls st C1 I1 P1 L1) : Wd G y cc mL rt rk Z Q pc ls (.ref b :: st) C I P L := i_IN (As := []) ok hy hin hl hd hrk rfl hw hmc hms h (fun v C1 I1 P1 L1 hq => by obtain ⟨rfl, h1, h2, h3, h4⟩ := hq; exact ⟨h1.1, h1.2, k C1 I1 P1 L1 h1.1 h1.2 h2 h3 h4⟩)
theorem i_I1c {v0 : Value} {q' : CF → MI → MP → ML → Prop} (ok : OkM y' cc' mL' none 1) (hy : y'.name = "<init>") (hin : Cond.instanceMethod y' ∈ LW) (hl : Cond.methodLink y.cls idx y' ∈ LW) (hd : decode cc pc = .ok (.invokespecial idx, 3)) (hrk : rk' < rk) (hw : (st.map fun v => v.category).sum ≤ 8) (hmc : C.2.1 + mc ≤ Z.1) (hms : C.2.2 + ms ≤ Z.2) (h : Sp G y' cc' mL' none rk' mc ms [.ref b, v0] C I P L (NC b mc ms C I P L q')) (k : ∀ (C1 : CF) (I1 : MI) (P1 : MP) (L1 : ML), C1.2.1 = C.2.1 + mc → C1.2.2 = C.2.2 + ms → (∀ x, x < C.2.1 → C1.1 x = C.1 x) → (∀ x, x < C.2.1 → x ≠ b → I1 x = I x ∧ P1 x = P x ∧ L1 x = L x) → q' C1 I1 P1 L1 → Wd G y cc mL rt rk Z Q (pc + 3) ls st C1 I1 P1 L1) : Wd G y cc mL rt rk Z Q pc ls (v0 :: .ref b :: st) C I P L := i_I (As := [v0]) ok hy hin hl hd hrk rfl hw hmc hms h (fun v C1 I1 P1 L1 hq => by obtain ⟨rfl, h1, h2, h3, h4⟩ := hq; exact ⟨h1.1, h1.2, k C1 I1 P1 L1 h1.1 h1.2 h2 h3 h4⟩)
theorem i_I1x {v0 : Value} {I1 : MI} {P1 : MP} {L1 : ML} (ok : OkM y' cc' mL' none 1) (hy : y'.name = "<init>") (hin : Cond.instanceMethod y' ∈ LW) (hl : Cond.methodLink y.cls idx y' ∈ LW) (hd : decode cc pc = .ok (.invokespecial idx, 3)) (hrk : rk' < rk) (hw : (st.map fun v => v.category).sum ≤ 8) (hmc : C.2.1 + 0 ≤ Z.1) (hms : C.2.2 + 0 ≤ Z.2) (h : Sp G y' cc' mL' none rk' 0 0 [.ref b, v0] C I P L (NV C (XV I1 P1 L1))) (k : Wd G y cc mL rt rk Z Q (pc + 3) ls st C I1 P1 L1) : Wd G y cc mL rt rk Z Q pc ls (v0 :: .ref b :: st) C I P L := i_I (As := [v0]) ok hy hin hl hd hrk rfl hw hmc hms h (fun v C1 I2 P2 L2 hq => by obtain ⟨rfl, rfl, rfl, rfl, rfl⟩ := hq; exact ⟨rfl, rfl, k⟩)
theorem i_IN0x {I1 : MI} {P1 : MP} {L1 : ML} {host : String} (ok : OkM y' cc' mL' none 0) (hy : y'.name = "<init>") (hin : Cond.instanceMethod y' ∈ LW) (hl : (y.cls, idx, y', host) ∈ NWl) (hd : decode cc pc = .ok (.invokespecial idx, 3)) (hrk : rk' < rk) (hw : (st.map fun v => v.category).sum ≤ 8) (hmc : C.2.1 + 0 ≤ Z.1) (hms : C.2.2 + 0 ≤ Z.2) (h : Sp G y' cc' mL' none rk' 0 0 [.ref b] C I P L (NV C (XV I1 P1 L1))) (k : Wd G y cc mL rt rk Z Q (pc + 3) ls st C I1 P1 L1) : Wd G y cc mL rt rk Z Q pc ls (.ref b :: st) C I P L := i_IN (As := []) ok hy hin hl hd hrk rfl hw hmc hms h (fun v C1 I2 P2 L2 hq => by obtain ⟨rfl, rfl, rfl, rfl, rfl⟩ := hq; exact ⟨rfl, rfl, k⟩)
end NEWS


