/-! contracts of methods, and calls -/
def rmG (rk mc ms : Nat) : Room := { frames := rk, cells := mc, slots := ms, locals := 64 * rk }
def PcG (G : WG) (args : List Value) (C : CF) (I : MI) (P : MP) (L : ML) : Array Value → State → Prop := va_Pc args (fun U => EnvG G U ∧ Rep G U C.1 I P L U.heap ∧ U.heap.size = C.2.1 ∧ gB G ≤ U.heap.size)
def QcG (G : WG) (K : Nat → Option Kd) (Q : Post) : Array Value → State → Outcome → State → Prop := fun _ st oc t => (∃ (v : Option Value) (C : CF) (I : MI) (P : MP) (L : ML), oc = .returned v ∧ Q v C I P L ∧ Rep G t C.1 I P L t.heap ∧ t.heap.size = C.2.1 ∧ FrK K st.heap C.1 t.heap) ∧ va_F (gA G) st t
def Sp (G : WG) (y : MethodName) (cc : ByteArray) (mL : Nat) (rt : Option FieldType) (rk mc ms : Nat) (args : List Value) (C : CF) (I : MI) (P : MP) (L : ML) (Q : Post) : Prop :=
  ∀ l : Launch, Met l y (Cond.code y cc mL rt :: LW) (rmG rk mc ms) (PcG G args C I P L) (QcG G C.1 Q) mc ms (gA G)
/-- the locals with which a method begins -/
def ls0 : Nat → List Value → List (Option Value)
  | n, [] => List.replicate n none
  | n, (.long x) :: vs => some (.long x) :: none :: ls0 (n - 2) vs
  | n, (.double x) :: vs => some (.double x) :: none :: ls0 (n - 2) vs
  | n, v :: vs => some v :: ls0 (n - 1) vs
theorem ls0_ok : ∀ (vs : List Value) (n k : Nat), (lg_sl vs).length ≤ n → (ls0 n vs).length = n ∧ ∀ (i : Nat) (v : Value), (ls0 n vs)[i]? = some (some v) → (k + i, v) ∈ lv_args k vs := by
  have two : ∀ (w : Value) (vs : List Value) (n k : Nat), w.category = 2 → 2 + (lg_sl vs).length ≤ n → (∀ (n k : Nat), (lg_sl vs).length ≤ n → (ls0 n vs).length = n ∧ ∀ (i : Nat) (v : Value), (ls0 n vs)[i]? = some (some v) → (k + i, v) ∈ lv_args k vs) →
      (some w :: none :: ls0 (n - 2) vs).length = n ∧ ∀ (i : Nat) (v : Value), (some w :: none :: ls0 (n - 2) vs)[i]? = some (some v) → (k + i, v) ∈ lv_args k (w :: vs) := by
    intro w vs n k hc hn ih
    obtain ⟨h1, h2⟩ := ih (n - 2) (k + 2) (by omega)
    refine ⟨by simp [h1]; omega, fun i v hi => ?_⟩
    match i, hi with
    | 0, hi => simp at hi; subst hi; simp [lv_args]
    | 1, hi => simp at hi
    | i + 2, hi =>
      have h3 := h2 i v (by simpa using hi)
      unfold lv_args
      rw [if_pos hc]
      exact List.mem_cons_of_mem _ (by rw [show k + (i + 2) = k + 2 + i by omega]; exact h3)
  have one : ∀ (w : Value) (vs : List Value) (n k : Nat), ¬ w.category = 2 → 1 + (lg_sl vs).length ≤ n → (∀ (n k : Nat), (lg_sl vs).length ≤ n → (ls0 n vs).length = n ∧ ∀ (i : Nat) (v : Value), (ls0 n vs)[i]? = some (some v) → (k + i, v) ∈ lv_args k vs) →
      (some w :: ls0 (n - 1) vs).length = n ∧ ∀ (i : Nat) (v : Value), (some w :: ls0 (n - 1) vs)[i]? = some (some v) → (k + i, v) ∈ lv_args k (w :: vs) := by
    intro w vs n k hc hn ih
    obtain ⟨h1, h2⟩ := ih (n - 1) (k + 1) (by omega)
    refine ⟨by simp [h1]; omega, fun i v hi => ?_⟩
    match i, hi with
    | 0, hi => simp at hi; subst hi; simp [lv_args]
    | i + 1, hi =>
      have h3 := h2 i v (by simpa using hi)
      unfold lv_args
      rw [if_neg hc]
      exact List.mem_cons_of_mem _ (by rw [show k + (i + 1) = k + 1 + i by omega]; exact h3)
  intro vs
  induction vs with
  | nil => intro n k _; exact ⟨by simp [ls0], fun i v h => by simp [ls0, List.getElem?_replicate] at h⟩
  | cons w vs ih =>
    intro n k hn
    cases w with
    | long x => exact two _ vs n k rfl (by have e : (lg_sl (Value.long x :: vs)).length = 2 + (lg_sl vs).length := (by simp [lg_sl, Value.category]; omega); omega) ih
    | double x => exact two _ vs n k rfl (by have e : (lg_sl (Value.double x :: vs)).length = 2 + (lg_sl vs).length := (by simp [lg_sl, Value.category]; omega); omega) ih
    | int x => exact one _ vs n k (by simp [Value.category]) (by simpa [lg_sl, Value.category, Nat.add_comm] using hn) ih
    | float x => exact one _ vs n k (by simp [Value.category]) (by simpa [lg_sl, Value.category, Nat.add_comm] using hn) ih
    | null => exact one _ vs n k (by simp [Value.category]) (by simpa [lg_sl, Value.category, Nat.add_comm] using hn) ih
    | ref x => exact one _ vs n k (by simp [Value.category]) (by simpa [lg_sl, Value.category, Nat.add_comm] using hn) ih
    | retAddr x => exact one _ vs n k (by simp [Value.category]) (by simpa [lg_sl, Value.category, Nat.add_comm] using hn) ih
theorem lk_entry (vs : List Value) {n : Nat} (h : (lg_sl vs).length ≤ n) : Lk ((lg_sl vs ++ List.replicate (n - (lg_sl vs).length) Slot.unset).toArray) n (ls0 n vs) := by
  obtain ⟨h1, h2, h3⟩ := lv_entry vs h
  obtain ⟨g1, g2⟩ := ls0_ok vs n 0 h
  exact ⟨h1, h2, g1, fun i v hi => h3 (i, v) (by have := g2 i v hi; rwa [Nat.zero_add] at this)⟩
theorem sp_of {G : WG} {y : MethodName} {cc : ByteArray} {mL : Nat} {rt : Option FieldType} {rk mc ms : Nat} {args : List Value} {C : CF} {I : MI} {P : MP} {L : ML} {Q : Post} (hy : plainName y.cls = true) (hfit : (lg_sl args).length ≤ mL)
    (hQ : ∀ (v : Option Value) (C1 : CF) (I1 : MI) (P1 : MP) (L1 : ML), Q v C1 I1 P1 L1 → C1.2.1 = C.2.1 + mc ∧ C1.2.2 = C.2.2 + ms) (h : Wd G y cc mL rt rk (C.2.1 + mc, C.2.2 + ms) Q 0 (ls0 mL args) [] C I P L) : Sp G y cc mL rt rk mc ms args C I P L Q := by
  intro l
  refine Met.ofW (cc := cc) (maxL := mL) (ret := rt) hy rfl ?_
  intro p e s m args' below meth c s₁ B hml hv
  obtain ⟨rfl, hE, hR, hsz, hb⟩ := hv
  have hts : ∀ w ∈ LW, w.before args.toArray s = true := fun w hw => atoms_spec (ws := Cond.code y cc mL rt :: LW) B.pre w (List.mem_cons_of_mem _ hw)
  have hr := B.returns
  have hlocks := B.notSynchronized
  rw [lg_entry_eq]
  refine h p l e _ s m _ below meth c _ (C.2.2, C.1) s.heap [] 0 0 _ ⟨B.exec, B.bytes, hml, findClass_of_methodNamed B.named, hts, hE, hb, Nat.le_refl _, Nat.le_refl _, ?_, ?_, (name_of_methodNamed B.named B.method).1, ?_⟩ ⟨hR, hsz, va_S.rf, ?_, ?_, ?_, ?_, fun q h1 h2 => ⟨h2, rfl⟩⟩ (lk_entry args hfit)
  · show C.2.1 + mc ≤ mc + s.heap.size; omega
  · show C.2.2 + ms ≤ ms + C.2.2; omega
  · intro v H locs cells slots arr C1 I1 P1 L1 pc hq hH hret
    obtain ⟨g1, g2, g3, g4, g5, -, -, g8⟩ := hH
    replace g5 : slots + C.2.2 = C1.2.2 := g5
    obtain ⟨z1, z2⟩ := hQ v C1 I1 P1 L1 hq
    refine W.cs (cells' := mc) (slots' := ms) (by omega) (by omega) ?_
    have post : ∀ t : State, t.heap = H → s.WarmedH t.vm → QcG G C.1 Q args.toArray s (.returned v) t := fun t ht hW => ⟨⟨v, C1, I1, P1, L1, rfl, hq, by rw [ht]; exact g1.moved hW.alike, by rw [ht]; exact g2, by rw [ht]; exact g8⟩, g3.F ht⟩
    match v, hret, post with
    | none, hret, post => exact W.vret B.exec B.bytes (hr.trans hret.2) post g3.2.2 hret.1
    | some (.int x), hret, post =>
      obtain ⟨hd, ty, e1, e2⟩ := hret
      exact W.zret B.exec B.bytes (hr.trans e1) e2 post g3.2.2 hd
    | some (.long x), hret, post => exact W.lret B.exec B.bytes (hr.trans hret.2) post g3.2.2 hret.1
    | some (.ref x), hret, post =>
      obtain ⟨hd, n, e1⟩ := hret
      exact W.aret B.exec B.bytes (hr.trans e1) (Or.inl ⟨n, rfl⟩) (Or.inr ⟨x, rfl⟩) post g3.2.2 hd
    | some .null, hret, post => exact hret.elim
    | some (.float x), hret, post => exact hret.elim
    | some (.double x), hret, post => exact hret.elim
    | some (.retAddr x), hret, post => exact hret.elim
  · show 0 + s.heap.size = C.2.1; omega
  · show 0 + C.2.2 = C.2.2; omega
  · show C.2.1 ≤ C.2.1 + mc; omega
  · show C.2.2 ≤ C.2.2 + ms; omega
theorem pc_blind {G : WG} {args : List Value} {C : CF} {I : MI} {P : MP} {L : ML} : FrameBlind (PcG G args C I P L) := by
  intro a U g mk h
  obtain ⟨h1, h2, h3, h4⟩ := h
  exact ⟨h1, h2.same rfl rfl, h3.moved (Vm.Alike.refl _), h4⟩
theorem x_call {p : Program} {l : Launch} {e : Env} {R : Room} {s : State} {m : MethodId} {args : Array Value} {below : List Frame} {meth : Method} {c : Code} {H : Heap} {locs : List Loc} {cells slots mc ms pc : Nat} {Qm : State → Prop} {arr : Array Slot} {st0 rest : List Value} {G : WG} {Q' : Post} {K : Nat → Option Kd} {a : Array Value}
    (hr : va_Run p l e R s m args below meth c H locs cells slots mc ms (F0 m pc arr st0) rest (QcG G K Q' a) (gA G)) (hS : va_S (gA G) s.heap H locs)
    (kk : ∀ (v : Option Value) (C1 : CF) (I1 : MI) (P1 : MP) (L1 : ML) (H1 : Heap) (locs1 : List Loc), Q' v C1 I1 P1 L1 → Rep G s C1.1 I1 P1 L1 H1 → H1.size = C1.2.1 → va_S (gA G) s.heap H1 locs1 → FrK K H C1.1 H1 → W p l e R s m args below meth c H1 locs1 (cells + mc) (slots + ms) Qm (F0 m (pc + 3) arr (v.toList ++ rest))) : W p l e R s m args below meth c H locs cells slots Qm (F0 m pc arr st0) := by
  intro T hT X
  obtain ⟨v, st₀, t, T', LL, h0, X', hLL, e1, e2, ⟨⟨v', C1, I1, P1, L1, hv, hq, hR1, hz1, hFr⟩, hz, hk⟩, stp⟩ := hr T hT X
  cases hv
  rw [h0] at hz hk hFr
  have hal : t.vm.Alike s.vm := by rw [← e2]; exact X'.warmed.alike.symm
  obtain ⟨t2, a1, b1⟩ := kk v C1 I1 P1 L1 T'.heap (locs ++ LL) hq (by rw [e1]; exact hR1.moved hal) (by rw [e1]; exact hz1)
    ⟨Nat.le_trans hS.1 (by rw [e1]; exact hz), fun q h1 h2 => by rw [e1, hk q (Nat.lt_of_lt_of_le h1 hS.1) h2]; exact hS.2.1 q h1 h2, fun q hq => by
      rcases List.mem_append.mp hq with h | h
      · exact hS.2.2 q h
      · exact hLL q h⟩ (by rw [e1]; exact hFr) T' rfl X'
  exact ⟨t2, stp t2 a1, b1⟩
/-- what a callee's words say -/
def OkM (y : MethodName) (cc : ByteArray) (mL : Nat) (rt : Option FieldType) (n : Nat) : Prop := Cond.code y cc mL rt ∈ LW ∧ Cond.initialized y.cls ∈ LW ∧ (y.cls ≠ "java/lang/invoke/MethodHandle" ∧ y.cls ≠ "java/lang/invoke/VarHandle") ∧ (parseMethodDescriptor y.desc).map (fun d => d.parameters.length) = some n ∧ mL ≤ 45
theorem ok_len {y : MethodName} {cc : ByteArray} {mL : Nat} {rt : Option FieldType} {n : Nat} (h : OkM y cc mL rt n) : ∀ sig, parseMethodDescriptor y.desc = some sig → n = sig.parameters.length := by
  intro sig hs
  have h2 := h.2.2.2.1
  rw [hs] at h2
  exact (Option.some.inj h2).symm
theorem ok_pay {y : MethodName} {cc : ByteArray} {mL : Nat} {rt : Option FieldType} {n : Nat} (h : OkM y cc mL rt n) {args : Array Value} {s : State} (hts : ∀ w ∈ LW, w.before args s = true) : ∀ w ∈ Cond.code y cc mL rt :: LW, ∀ (a' : Array Value) (U : State), s.WarmedH U.vm → w.before a' U = true := by
  have hG : GoodIn LW (Cond.code y cc mL rt :: LW) := fun w hw => LW_good w (by
    rcases List.mem_cons.mp hw with e | e
    · rw [e]; exact h.1
    · exact e)
  exact pay_in hts hG
section CALLS
variable {G : WG} {y : MethodName} {cc : ByteArray} {mL : Nat} {rt : Option FieldType} {rk : Nat} {Z : Nat × Nat} {Q : Post} {pc : Nat} {ls : List (Option Value)} {st : List Value} {C : CF} {I : MI} {P : MP} {L : ML}
variable {y' : MethodName} {cc' : ByteArray} {mL' : Nat} {rt' : Option FieldType} {n rk' mc ms idx b c : Nat} {As : List Value} {Q' : Post}
theorem pre_U {s U : State} {args : List Value} {sl0 : Nat × (Nat → Option Kd)} {H : Heap} {locs : List Loc} {cells slots : Nat} (hE : EnvG G s) (hB : gB G ≤ s.heap.size) (hH : Ch G s sl0 Z C I P L H locs cells slots) (hU : U.heap = H) (hW : s.WarmedH U.vm) : PcG G args C I P L args.toArray U := by
  obtain ⟨g1, g2, g3, -⟩ := hH
  refine ⟨rfl, hE.go hW (fun a h1 h2 => ?_), by rw [hU]; exact g1.moved hW.alike, by rw [hU]; exact g2, by rw [hU]; exact Nat.le_trans hB g3.1⟩
  rw [hU]; exact g3.2.1 a h1 h2
theorem room_U {R : Room} (h1 : rk ≤ R.frames) (h2 : 64 * rk ≤ R.locals) (hrk : rk' < rk) (hm : mL' ≤ 45) : (rmG rk' mc ms).frames + 1 ≤ R.frames ∧ 8 + (mL' + 11) + (rmG rk' mc ms).locals ≤ R.locals := by
  refine ⟨by show rk' + 1 ≤ _; omega, by show 8 + (mL' + 11) + 64 * rk' ≤ _; omega⟩
theorem recv_U {s : State} {sl0 : Nat × (Nat → Option Kd)} {H : Heap} {locs : List Loc} {cells slots : Nat} {nm : String} (hE : EnvG G s) (hH : Ch G s sl0 Z C I P L H locs cells slots) (hK : C.1 b = some (.inl c)) (hc : (vwCl[c]?).map (·.1) = some nm) : ∃ cellB : Cell, H[b]? = some cellB ∧ cellB.vm.isStatics = false ∧ s.vm.findClass nm = some cellB.cls := by
  obtain ⟨r, hr, cell, q1, q2, q3, q4⟩ := hH.1 b _ hK
  rw [hr] at hc
  cases hc
  exact ⟨cell, q1, by rw [q3]; rfl, by rw [q2]; exact (hE.1.1 c r hr).2.1⟩

theorem i_V (ok : OkM y' cc' mL' rt' n) (hin : Cond.instanceMethod y' ∈ LW) (hsel : Cond.selects y'.cls y' y' ∈ LW) (hl : Cond.methodLink y.cls idx y' ∈ LW) (hd : decode cc pc = .ok (.invokevirtual idx, 3)) (hK : C.1 b = some (.inl c)) (hc : (vwCl[c]?).map (·.1) = some y'.cls) (hrk : rk' < rk) (hn : As.length = n) (hw : (st.map fun v => v.category).sum ≤ 8) (hmc : C.2.1 + mc ≤ Z.1) (hms : C.2.2 + ms ≤ Z.2) (h : Sp G y' cc' mL' rt' rk' mc ms (.ref b :: As) C I P L Q') (k : ∀ (v : Option Value) (C1 : CF) (I1 : MI) (P1 : MP) (L1 : ML), Q' v C1 I1 P1 L1 → C1.2.1 = C.2.1 + mc ∧ C1.2.2 = C.2.2 + ms ∧ Wd G y cc mL rt rk Z Q (pc + 3) ls (v.toList ++ st) C1 I1 P1 L1) : Wd G y cc mL rt rk Z Q pc ls (As.reverse ++ .ref b :: st) C I P L := by
  intro p l e R s m args below meth c0 Qm sl0 H locs cells slots arr hX hH hL
  have hts := hX.2.2.2.2.1
  have hf : cells + mc ≤ R.cells ∧ slots + ms ≤ R.slots := by
    have h1 := hH.2.2.2.1; have h2 := hH.2.2.2.2.1; have h3 := hX.2.2.2.2.2.2.2.2.2.1; have h4 := hX.2.2.2.2.2.2.2.2.2.2.1; omega
  refine x_call (va_runV ⟨hX.1, hX.2.1, hX.2.2.1, hX.2.2.2.1, hts⟩ (h l) ⟨⟨rfl, rfl, (room_U hX.2.2.2.2.2.2.2.1 hX.2.2.2.2.2.2.2.2.1 hrk ok.2.2.2.2).1, (room_U (mc := mc) (ms := ms) hX.2.2.2.2.2.2.2.1 hX.2.2.2.2.2.2.2.2.1 hrk ok.2.2.2.2).2, ok_pay ok hts, List.mem_cons_self, hts _ ok.1, hts _ ok.2.1, ok.2.2.1, ok_len ok, hts _ hl⟩, hts _ hin, hts _ hsel⟩ ⟨pc_blind, recv_U hX.2.2.2.2.2.1 hH hK hc, fun U hU hW => pre_U hX.2.2.2.2.2.1 hX.2.2.2.2.2.2.1 hH hU hW⟩ rfl hn (hL.1) rfl (lv_room hw) hd hf) hH.2.2.1 (fun v C1 I1 P1 L1 H1 locs1 hq hR1 hz1 hS1 hF1 => ?_)
  obtain ⟨k1, k2, k3⟩ := k v C1 I1 P1 L1 hq
  exact k3 p l e R s m args below meth c0 Qm sl0 H1 locs1 (cells + mc) (slots + ms) arr hX ⟨hR1, hz1, hS1, by have := hH.2.2.2.1; omega, by have := hH.2.2.2.2.1; omega, by omega, by omega, hH.2.2.2.2.2.2.2.tr hF1 hH.2.2.1.1⟩ hL

theorem i_S (ok : OkM y' cc' mL' rt' n) (hin : Cond.static y' ∈ LW) (hl : Cond.methodLink y.cls idx y' ∈ LW) (hd : decode cc pc = .ok (.invokestatic idx, 3)) (hrk : rk' < rk) (hn : As.length = n) (hw : (st.map fun v => v.category).sum ≤ 8) (hmc : C.2.1 + mc ≤ Z.1) (hms : C.2.2 + ms ≤ Z.2) (h : Sp G y' cc' mL' rt' rk' mc ms As C I P L Q') (k : ∀ (v : Option Value) (C1 : CF) (I1 : MI) (P1 : MP) (L1 : ML), Q' v C1 I1 P1 L1 → C1.2.1 = C.2.1 + mc ∧ C1.2.2 = C.2.2 + ms ∧ Wd G y cc mL rt rk Z Q (pc + 3) ls (v.toList ++ st) C1 I1 P1 L1) : Wd G y cc mL rt rk Z Q pc ls (As.reverse ++ st) C I P L := by
  intro p l e R s m args below meth c0 Qm sl0 H locs cells slots arr hX hH hL
  have hts := hX.2.2.2.2.1
  have hf : cells + mc ≤ R.cells ∧ slots + ms ≤ R.slots := by
    have h1 := hH.2.2.2.1; have h2 := hH.2.2.2.2.1; have h3 := hX.2.2.2.2.2.2.2.2.2.1; have h4 := hX.2.2.2.2.2.2.2.2.2.2.1; omega
  refine x_call (va_runS ⟨hX.1, hX.2.1, hX.2.2.1, hX.2.2.2.1, hts⟩ (h l) ⟨⟨rfl, rfl, (room_U hX.2.2.2.2.2.2.2.1 hX.2.2.2.2.2.2.2.2.1 hrk ok.2.2.2.2).1, (room_U (mc := mc) (ms := ms) hX.2.2.2.2.2.2.2.1 hX.2.2.2.2.2.2.2.2.1 hrk ok.2.2.2.2).2, ok_pay ok hts, List.mem_cons_self, hts _ ok.1, hts _ ok.2.1, ok.2.2.1, ok_len ok, hts _ hl⟩, hts _ hin⟩ ⟨pc_blind, fun U hU hW => pre_U hX.2.2.2.2.2.1 hX.2.2.2.2.2.2.1 hH hU hW⟩ rfl hn (hL.1) rfl (lv_room hw) hd hf) hH.2.2.1 (fun v C1 I1 P1 L1 H1 locs1 hq hR1 hz1 hS1 hF1 => ?_)
  obtain ⟨k1, k2, k3⟩ := k v C1 I1 P1 L1 hq
  exact k3 p l e R s m args below meth c0 Qm sl0 H1 locs1 (cells + mc) (slots + ms) arr hX ⟨hR1, hz1, hS1, by have := hH.2.2.2.1; omega, by have := hH.2.2.2.2.1; omega, by omega, by omega, hH.2.2.2.2.2.2.2.tr hF1 hH.2.2.1.1⟩ hL

theorem i_I (ok : OkM y' cc' mL' none n) (hy : y'.name = "<init>") (hin : Cond.instanceMethod y' ∈ LW) (hl : Cond.methodLink y.cls idx y' ∈ LW) (hd : decode cc pc = .ok (.invokespecial idx, 3)) (hrk : rk' < rk) (hn : As.length = n) (hw : (st.map fun v => v.category).sum ≤ 8) (hmc : C.2.1 + mc ≤ Z.1) (hms : C.2.2 + ms ≤ Z.2) (h : Sp G y' cc' mL' none rk' mc ms (.ref b :: As) C I P L Q') (k : ∀ (v : Option Value) (C1 : CF) (I1 : MI) (P1 : MP) (L1 : ML), Q' v C1 I1 P1 L1 → C1.2.1 = C.2.1 + mc ∧ C1.2.2 = C.2.2 + ms ∧ Wd G y cc mL rt rk Z Q (pc + 3) ls (v.toList ++ st) C1 I1 P1 L1) : Wd G y cc mL rt rk Z Q pc ls (As.reverse ++ .ref b :: st) C I P L := by
  intro p l e R s m args below meth c0 Qm sl0 H locs cells slots arr hX hH hL
  have hts := hX.2.2.2.2.1
  have hf : cells + mc ≤ R.cells ∧ slots + ms ≤ R.slots := by
    have h1 := hH.2.2.2.1; have h2 := hH.2.2.2.2.1; have h3 := hX.2.2.2.2.2.2.2.2.2.1; have h4 := hX.2.2.2.2.2.2.2.2.2.2.1; omega
  refine x_call (va_runI ⟨hX.1, hX.2.1, hX.2.2.1, hX.2.2.2.1, hts⟩ (h l) ⟨⟨rfl, rfl, (room_U hX.2.2.2.2.2.2.2.1 hX.2.2.2.2.2.2.2.2.1 hrk ok.2.2.2.2).1, (room_U (mc := mc) (ms := ms) hX.2.2.2.2.2.2.2.1 hX.2.2.2.2.2.2.2.2.1 hrk ok.2.2.2.2).2, ok_pay ok hts, List.mem_cons_self, hts _ ok.1, hts _ ok.2.1, ok.2.2.1, ok_len ok, hts _ hl⟩, hy, hts _ hin⟩ ⟨pc_blind, fun U hU hW => pre_U hX.2.2.2.2.2.1 hX.2.2.2.2.2.2.1 hH hU hW⟩ rfl hn (hL.1) rfl (lv_room hw) hd hf) hH.2.2.1 (fun v C1 I1 P1 L1 H1 locs1 hq hR1 hz1 hS1 hF1 => ?_)
  obtain ⟨k1, k2, k3⟩ := k v C1 I1 P1 L1 hq
  exact k3 p l e R s m args below meth c0 Qm sl0 H1 locs1 (cells + mc) (slots + ms) arr hX ⟨hR1, hz1, hS1, by have := hH.2.2.2.1; omega, by have := hH.2.2.2.2.1; omega, by omega, by omega, hH.2.2.2.2.2.2.2.tr hF1 hH.2.2.1.1⟩ hL

theorem i_SN (ok : OkM y' cc' mL' rt' n) {host : String} (hin : Cond.static y' ∈ LW) (hl : (y.cls, idx, y', host) ∈ NWl) (hd : decode cc pc = .ok (.invokestatic idx, 3)) (hrk : rk' < rk) (hn : As.length = n) (hw : (st.map fun v => v.category).sum ≤ 8) (hmc : C.2.1 + mc ≤ Z.1) (hms : C.2.2 + ms ≤ Z.2) (h : Sp G y' cc' mL' rt' rk' mc ms As C I P L Q') (k : ∀ (v : Option Value) (C1 : CF) (I1 : MI) (P1 : MP) (L1 : ML), Q' v C1 I1 P1 L1 → C1.2.1 = C.2.1 + mc ∧ C1.2.2 = C.2.2 + ms ∧ Wd G y cc mL rt rk Z Q (pc + 3) ls (v.toList ++ st) C1 I1 P1 L1) : Wd G y cc mL rt rk Z Q pc ls (As.reverse ++ st) C I P L := by
  intro p l e R s m args below meth c0 Qm sl0 H locs cells slots arr hX hH hL
  have hts := hX.2.2.2.2.1
  have hf : cells + mc ≤ R.cells ∧ slots + ms ≤ R.slots := by
    have h1 := hH.2.2.2.1; have h2 := hH.2.2.2.2.1; have h3 := hX.2.2.2.2.2.2.2.2.2.1; have h4 := hX.2.2.2.2.2.2.2.2.2.2.1; omega
  refine x_call (va_runSN ⟨hX.1, hX.2.1, hX.2.2.1, hX.2.2.2.1, hts⟩ (h l) ⟨⟨⟨rfl, rfl, (room_U hX.2.2.2.2.2.2.2.1 hX.2.2.2.2.2.2.2.2.1 hrk ok.2.2.2.2).1, (room_U (mc := mc) (ms := ms) hX.2.2.2.2.2.2.2.1 hX.2.2.2.2.2.2.2.2.1 hrk ok.2.2.2.2).2, ok_pay ok hts, List.mem_cons_self⟩, hts _ ok.1, hts _ ok.2.1, ok.2.2.1, ok_len ok, va_Nw.use rfl (hX.2.2.2.2.2.1.2.1 _ hl)⟩, hts _ hin, trivial⟩ ⟨pc_blind, fun U hU hW => pre_U hX.2.2.2.2.2.1 hX.2.2.2.2.2.2.1 hH hU hW⟩ rfl hn (hL.1) rfl (lv_room hw) hd hf) hH.2.2.1 (fun v C1 I1 P1 L1 H1 locs1 hq hR1 hz1 hS1 hF1 => ?_)
  obtain ⟨k1, k2, k3⟩ := k v C1 I1 P1 L1 hq
  exact k3 p l e R s m args below meth c0 Qm sl0 H1 locs1 (cells + mc) (slots + ms) arr hX ⟨hR1, hz1, hS1, by have := hH.2.2.2.1; omega, by have := hH.2.2.2.2.1; omega, by omega, by omega, hH.2.2.2.2.2.2.2.tr hF1 hH.2.2.1.1⟩ hL

theorem i_IN (ok : OkM y' cc' mL' none n) {host : String} (hy : y'.name = "<init>") (hin : Cond.instanceMethod y' ∈ LW) (hl : (y.cls, idx, y', host) ∈ NWl) (hd : decode cc pc = .ok (.invokespecial idx, 3)) (hrk : rk' < rk) (hn : As.length = n) (hw : (st.map fun v => v.category).sum ≤ 8) (hmc : C.2.1 + mc ≤ Z.1) (hms : C.2.2 + ms ≤ Z.2) (h : Sp G y' cc' mL' none rk' mc ms (.ref b :: As) C I P L Q') (k : ∀ (v : Option Value) (C1 : CF) (I1 : MI) (P1 : MP) (L1 : ML), Q' v C1 I1 P1 L1 → C1.2.1 = C.2.1 + mc ∧ C1.2.2 = C.2.2 + ms ∧ Wd G y cc mL rt rk Z Q (pc + 3) ls (v.toList ++ st) C1 I1 P1 L1) : Wd G y cc mL rt rk Z Q pc ls (As.reverse ++ .ref b :: st) C I P L := by
  intro p l e R s m args below meth c0 Qm sl0 H locs cells slots arr hX hH hL
  have hts := hX.2.2.2.2.1
  have hf : cells + mc ≤ R.cells ∧ slots + ms ≤ R.slots := by
    have h1 := hH.2.2.2.1; have h2 := hH.2.2.2.2.1; have h3 := hX.2.2.2.2.2.2.2.2.2.1; have h4 := hX.2.2.2.2.2.2.2.2.2.2.1; omega
  refine x_call (va_runIN ⟨hX.1, hX.2.1, hX.2.2.1, hX.2.2.2.1, hts⟩ (h l) ⟨⟨⟨rfl, rfl, (room_U hX.2.2.2.2.2.2.2.1 hX.2.2.2.2.2.2.2.2.1 hrk ok.2.2.2.2).1, (room_U (mc := mc) (ms := ms) hX.2.2.2.2.2.2.2.1 hX.2.2.2.2.2.2.2.2.1 hrk ok.2.2.2.2).2, ok_pay ok hts, List.mem_cons_self⟩, hts _ ok.1, hts _ ok.2.1, ok.2.2.1, ok_len ok, va_Nw.use rfl (hX.2.2.2.2.2.1.2.1 _ hl)⟩, hy, hts _ hin⟩ ⟨pc_blind, fun U hU hW => pre_U hX.2.2.2.2.2.1 hX.2.2.2.2.2.2.1 hH hU hW⟩ rfl hn (hL.1) rfl (lv_room hw) hd hf) hH.2.2.1 (fun v C1 I1 P1 L1 H1 locs1 hq hR1 hz1 hS1 hF1 => ?_)
  obtain ⟨k1, k2, k3⟩ := k v C1 I1 P1 L1 hq
  exact k3 p l e R s m args below meth c0 Qm sl0 H1 locs1 (cells + mc) (slots + ms) arr hX ⟨hR1, hz1, hS1, by have := hH.2.2.2.1; omega, by have := hH.2.2.2.2.1; omega, by omega, by omega, hH.2.2.2.2.2.2.2.tr hF1 hH.2.2.1.1⟩ hL

theorem i_U (ok : OkM y' cc' mL' rt' n) {x : MethodName} {CC : String} {b0 : ByteArray} {m0 : Nat} {r0 : Option FieldType} (hxd : x.desc = y'.desc) (hxo : x.cls ≠ "java/lang/invoke/MethodHandle" ∧ x.cls ≠ "java/lang/invoke/VarHandle") (hin : Cond.instanceMethod y' ∈ LW) (hl : Cond.methodLink y.cls idx x ∈ LW) (hsm : Cond.sameMethod x.cls x.cls x.name x.desc ∈ LW) (hdi : Cond.instanceMethod x ∈ LW) (hdc : Cond.code x b0 m0 r0 ∈ LW) (hsel : Cond.selects CC x y' ∈ LW) (hd : decode cc pc = .ok (.invokevirtual idx, 3)) (hK : C.1 b = some (.inl c)) (hc : (vwCl[c]?).map (·.1) = some CC) (hrk : rk' < rk) (hn : As.length = n) (hw : (st.map fun v => v.category).sum ≤ 8) (hmc : C.2.1 + mc ≤ Z.1) (hms : C.2.2 + ms ≤ Z.2) (h : Sp G y' cc' mL' rt' rk' mc ms (.ref b :: As) C I P L Q') (k : ∀ (v : Option Value) (C1 : CF) (I1 : MI) (P1 : MP) (L1 : ML), Q' v C1 I1 P1 L1 → C1.2.1 = C.2.1 + mc ∧ C1.2.2 = C.2.2 + ms ∧ Wd G y cc mL rt rk Z Q (pc + 3) ls (v.toList ++ st) C1 I1 P1 L1) : Wd G y cc mL rt rk Z Q pc ls (As.reverse ++ .ref b :: st) C I P L := by
  intro p l e R s m args below meth c0 Qm sl0 H locs cells slots arr hX hH hL
  have hts := hX.2.2.2.2.1
  have hf : cells + mc ≤ R.cells ∧ slots + ms ≤ R.slots := by
    have h1 := hH.2.2.2.1; have h2 := hH.2.2.2.2.1; have h3 := hX.2.2.2.2.2.2.2.2.2.1; have h4 := hX.2.2.2.2.2.2.2.2.2.2.1; omega
  refine x_call (va_runU (owner := x.cls) ⟨hX.1, hX.2.1, hX.2.2.1, hX.2.2.2.1, hts⟩ (h l) ⟨⟨rfl, rfl, (room_U hX.2.2.2.2.2.2.2.1 hX.2.2.2.2.2.2.2.2.1 hrk ok.2.2.2.2).1, (room_U (mc := mc) (ms := ms) hX.2.2.2.2.2.2.2.1 hX.2.2.2.2.2.2.2.2.1 hrk ok.2.2.2.2).2, ok_pay ok hts, List.mem_cons_self⟩, hts _ ok.1, hts _ ok.2.1, hxo, fun sig hs => ok_len ok sig (by rw [← hxd]; exact hs), hts _ hl, hts _ hsm, va_Decl.of (hts _ hdi) (hts _ hdc), hts _ hsel, hts _ hin⟩ ⟨pc_blind, recv_U hX.2.2.2.2.2.1 hH hK hc, fun U hU hW => pre_U hX.2.2.2.2.2.1 hX.2.2.2.2.2.2.1 hH hU hW⟩ rfl hn (hL.1) rfl (lv_room hw) hd hf) hH.2.2.1 (fun v C1 I1 P1 L1 H1 locs1 hq hR1 hz1 hS1 hF1 => ?_)
  obtain ⟨k1, k2, k3⟩ := k v C1 I1 P1 L1 hq
  exact k3 p l e R s m args below meth c0 Qm sl0 H1 locs1 (cells + mc) (slots + ms) arr hX ⟨hR1, hz1, hS1, by have := hH.2.2.2.1; omega, by have := hH.2.2.2.2.1; omega, by omega, by omega, hH.2.2.2.2.2.2.2.tr hF1 hH.2.2.1.1⟩ hL

theorem i_SU (ok : OkM y' cc' mL' rt' n) {CC : String} (hno : y'.name ≠ "<init>") (hin : Cond.instanceMethod y' ∈ LW) (hl : Cond.methodLink y.cls idx y' ∈ LW) (hsm : Cond.sameMethod y'.cls y'.cls y'.name y'.desc ∈ LW) (hsu : Cond.superclass y.cls y'.cls ∈ LW) (hd : decode cc pc = .ok (.invokespecial idx, 3)) (hK : C.1 b = some (.inl c)) (hc : (vwCl[c]?).map (·.1) = some CC) (hrk : rk' < rk) (hn : As.length = n) (hw : (st.map fun v => v.category).sum ≤ 8) (hmc : C.2.1 + mc ≤ Z.1) (hms : C.2.2 + ms ≤ Z.2) (h : Sp G y' cc' mL' rt' rk' mc ms (.ref b :: As) C I P L Q') (k : ∀ (v : Option Value) (C1 : CF) (I1 : MI) (P1 : MP) (L1 : ML), Q' v C1 I1 P1 L1 → C1.2.1 = C.2.1 + mc ∧ C1.2.2 = C.2.2 + ms ∧ Wd G y cc mL rt rk Z Q (pc + 3) ls (v.toList ++ st) C1 I1 P1 L1) : Wd G y cc mL rt rk Z Q pc ls (As.reverse ++ .ref b :: st) C I P L := by
  intro p l e R s m args below meth c0 Qm sl0 H locs cells slots arr hX hH hL
  have hts := hX.2.2.2.2.1
  have hf : cells + mc ≤ R.cells ∧ slots + ms ≤ R.slots := by
    have h1 := hH.2.2.2.1; have h2 := hH.2.2.2.2.1; have h3 := hX.2.2.2.2.2.2.2.2.2.1; have h4 := hX.2.2.2.2.2.2.2.2.2.2.1; omega
  refine x_call (va_runSU (C := CC) (cC := (gD G).1 c) (by obtain ⟨r, hr, -⟩ := hH.1 b _ hK; rw [hr] at hc; cases hc; exact (hX.2.2.2.2.2.1.1.1 c r hr).2) ⟨hX.1, hX.2.1, hX.2.2.1, hX.2.2.2.1, hts⟩ (h l) ⟨⟨rfl, rfl, (room_U hX.2.2.2.2.2.2.2.1 hX.2.2.2.2.2.2.2.2.1 hrk ok.2.2.2.2).1, (room_U (mc := mc) (ms := ms) hX.2.2.2.2.2.2.2.1 hX.2.2.2.2.2.2.2.2.1 hrk ok.2.2.2.2).2, ok_pay ok hts, List.mem_cons_self⟩, hts _ hl, hts _ hsm, hts _ hsu, hts _ hin, hts _ ok.2.1, hts _ ok.1, hno, ok_len ok⟩ ⟨pc_blind, recv_U hX.2.2.2.2.2.1 hH hK hc, fun U hU hW => pre_U hX.2.2.2.2.2.1 hX.2.2.2.2.2.2.1 hH hU hW⟩ rfl hn (hL.1) rfl (lv_room hw) hd hf) hH.2.2.1 (fun v C1 I1 P1 L1 H1 locs1 hq hR1 hz1 hS1 hF1 => ?_)
  obtain ⟨k1, k2, k3⟩ := k v C1 I1 P1 L1 hq
  exact k3 p l e R s m args below meth c0 Qm sl0 H1 locs1 (cells + mc) (slots + ms) arr hX ⟨hR1, hz1, hS1, by have := hH.2.2.2.1; omega, by have := hH.2.2.2.2.1; omega, by omega, by omega, hH.2.2.2.2.2.2.2.tr hF1 hH.2.2.1.1⟩ hL

theorem r_max {x z : Int} (hq : Cond.methodLink y.cls idx Lib.Math.max.name ∈ LW) (hs : Cond.static Lib.Math.max.name ∈ LW) (hi : Cond.initialized "java/lang/Math" ∈ LW) (hc : Cond.code Lib.Math.max.name Lib.Math.max.code 2 (some .int) ∈ LW) (hrk : 1 ≤ rk) (hw : (st.map fun v => v.category).sum ≤ 8) (hd : decode cc pc = .ok (.invokestatic idx, 3)) (hx : iR x) (hz : iR z) (k : Wd G y cc mL rt rk Z Q (pc + 3) ls (.int (zI (max x z)) :: st) C I P L) : Wd G y cc mL rt rk Z Q pc ls (.int (zI z) :: .int (zI x) :: st) C I P L := by
  intro p l e R s m args below meth c0 Qm sl0 H locs cells slots arr hX hH hL
  have hts := hX.2.2.2.2.1
  have k1 := k p l e R s m args below meth c0 Qm sl0 H locs cells slots arr hX hH hL
  have h1 := hH.2.2.2.1; have h2 := hH.2.2.2.2.1; have h3 := hX.2.2.2.2.2.2.2.2.2.1; have h4 := hX.2.2.2.2.2.2.2.2.2.2.1; have h5 := hH.2.2.2.2.2.1; have h6 := hH.2.2.2.2.2.2.1; have h7 := hX.2.2.2.2.2.2.2.1; have h8 := hX.2.2.2.2.2.2.2.2.1
  refine va_mmax hX.1 hX.2.1 (hX.2.2.1.trans hL.1.symm) hX.2.2.2.1 (hts _ hq) (hts _ hs) (hts _ hi) (hts _ hc) (by omega) (by omega) (by omega) (by omega) hd ?_
  have e : (if zI x < zI z then zI z else zI x) = zI (max x z) := by
    by_cases hxz : x < z
    · rw [if_pos ((zI_lt hx hz).mpr hxz)]; congr 1; omega
    · rw [if_neg (fun q => hxz ((zI_lt hx hz).mp q))]; congr 1; omega
  rw [e]; exact k1
theorem r_min {x z : Int} (hq : Cond.methodLink y.cls idx Lib.Math.min.name ∈ LW) (hs : Cond.static Lib.Math.min.name ∈ LW) (hi : Cond.initialized "java/lang/Math" ∈ LW) (hc : Cond.code Lib.Math.min.name Lib.Math.min.code 2 (some .int) ∈ LW) (hrk : 1 ≤ rk) (hw : (st.map fun v => v.category).sum ≤ 8) (hd : decode cc pc = .ok (.invokestatic idx, 3)) (hx : iR x) (hz : iR z) (k : Wd G y cc mL rt rk Z Q (pc + 3) ls (.int (zI (min x z)) :: st) C I P L) : Wd G y cc mL rt rk Z Q pc ls (.int (zI z) :: .int (zI x) :: st) C I P L := by
  intro p l e R s m args below meth c0 Qm sl0 H locs cells slots arr hX hH hL
  have hts := hX.2.2.2.2.1
  have k1 := k p l e R s m args below meth c0 Qm sl0 H locs cells slots arr hX hH hL
  have h1 := hH.2.2.2.1; have h2 := hH.2.2.2.2.1; have h3 := hX.2.2.2.2.2.2.2.2.2.1; have h4 := hX.2.2.2.2.2.2.2.2.2.2.1; have h5 := hH.2.2.2.2.2.1; have h6 := hH.2.2.2.2.2.2.1; have h7 := hX.2.2.2.2.2.2.2.1; have h8 := hX.2.2.2.2.2.2.2.2.1
  refine va_mmin hX.1 hX.2.1 (hX.2.2.1.trans hL.1.symm) hX.2.2.2.1 (hts _ hq) (hts _ hs) (hts _ hi) (hts _ hc) (by omega) (by omega) (by omega) (by omega) hd ?_
  have e : (if zI z < zI x then zI z else zI x) = zI (min x z) := by
    by_cases hxz : z < x
    · rw [if_pos ((zI_lt hz hx).mpr hxz)]; congr 1; omega
    · rw [if_neg (fun q => hxz ((zI_lt hz hx).mp q))]; congr 1; omega
  rw [e]; exact k1
theorem ch_new {s : State} {k : Nat} {sl0 : Nat × (Nat → Option Kd)} {I' : MI} {P' : MP} {L' : ML} {H H' : Heap} {locs : List Loc} {cells slots : Nat} {kd : Kd} (hH : Ch G s sl0 Z C I P L H locs cells slots) (hB : gB G ≤ s.heap.size)
    (f2 : H'.size = C.2.1 + 1) (f3 : ∀ q, q < C.2.1 → H'[q]? = H[q]?) (hnew : cAt G s I' P' L' H' C.2.1 kd) (hs : ∀ b j, b ≠ C.2.1 → I' b j = I b j ∧ P' b j = P b j ∧ L' b j = L b j) (hz1 : C.2.1 + 1 ≤ Z.1) (hz2 : C.2.2 + k ≤ Z.2) :
    Ch G s sl0 Z (uK C.1 C.2.1 kd, C.2.1 + 1, C.2.2 + k) I' P' L' H' locs (cells + 1) (slots + k) := by
  obtain ⟨g1, g2, g3, g4, g5, g6, g7, g8⟩ := hH
  refine ⟨fun b kd' hb => ?_, f2, ⟨by rw [f2, ← g2]; exact Nat.le_succ_of_le g3.1, fun q h1 h2 => ?_, g3.2.2⟩, by show cells + 1 + s.heap.size = C.2.1 + 1; omega, by show slots + k + sl0.1 = C.2.2 + k; omega, hz1, hz2, fun q h1 h2 => ⟨by show (if q = C.2.1 then some kd else C.1 q) = none; rw [if_neg (by have := g3.1; omega)]; exact (g8 q h1 h2).1, (f3 q (by have := g3.1; omega)).trans (g8 q h1 h2).2⟩⟩
  · replace hb : (if b = C.2.1 then some kd else C.1 b) = some kd' := hb
    by_cases hbn : b = C.2.1
    · subst hbn
      rw [if_pos rfl] at hb; cases hb
      exact hnew
    · rw [if_neg hbn] at hb
      have h := g1 b kd' hb
      exact h.kept (f3 b (by have := h.lt; omega)) (fun j => (hs b j hbn).1) (fun j => (hs b j hbn).2.1) (fun j => (hs b j hbn).2.2)
  · rw [f3 q (by have := g3.1; omega)]; exact g3.2.1 q h1 h2
theorem tyC_ok {r : vw_C} {j : Nat} (h : vwCl[c]? = some r) (hj : j < r.2.2) : tyC c j ≠ .float ∧ tyC c j ≠ .double := by
  match c, h with
  | 0, h => cases h; exact (by decide : ∀ j, j < 11 → tyX0 j ≠ .float ∧ tyX0 j ≠ .double) j hj
  | 1, h => cases h; exact (by decide : ∀ j, j < 5 → tyX1 j ≠ .float ∧ tyX1 j ≠ .double) j hj
  | 2, h => cases h; exact (by decide : ∀ j, j < 13 → tyX2 j ≠ .float ∧ tyX2 j ≠ .double) j hj
  | 3, h => cases h; exact (by decide : ∀ j, j < 0 → tyX3 j ≠ .float ∧ tyX3 j ≠ .double) j hj
  | 4, h => cases h; exact (by decide : ∀ j, j < 0 → tyX4 j ≠ .float ∧ tyX4 j ≠ .double) j hj
  | 5, h => cases h; exact (by decide : ∀ j, j < 5 → tyX5 j ≠ .float ∧ tyX5 j ≠ .double) j hj
  | 6, h => cases h; exact (by decide : ∀ j, j < 0 → tyX6 j ≠ .float ∧ tyX6 j ≠ .double) j hj
  | 7, h => cases h; exact (by decide : ∀ j, j < 7 → tyX7 j ≠ .float ∧ tyX7 j ≠ .double) j hj
  | 8, h => cases h; exact (by decide : ∀ j, j < 0 → tyX8 j ≠ .float ∧ tyX8 j ≠ .double) j hj
  | 9, h => cases h; exact (by decide : ∀ j, j < 0 → tyX9 j ≠ .float ∧ tyX9 j ≠ .double) j hj
  | 10, h => cases h; exact (by decide : ∀ j, j < 7 → tyX10 j ≠ .float ∧ tyX10 j ≠ .double) j hj
  | 11, h => cases h; exact (by decide : ∀ j, j < 13 → tyX11 j ≠ .float ∧ tyX11 j ≠ .double) j hj
  | c + 12, h => simp [vwCl] at h
theorem r_new {r : vw_C} {N : Nat} (hr : vwCl[c]? = some r) (hN : r.2.2 = N) (hq : Cond.classLink y.cls idx r.1 ∈ LW) (hi : Cond.instantiable r.1 N ∈ LW) (hini : Cond.initialized r.1 ∈ LW) (hd : decode cc pc = .ok (.new idx, 3)) (hz1 : C.2.1 + 1 ≤ Z.1) (hz2 : C.2.2 + N ≤ Z.2)
    (k : Wd G y cc mL rt rk Z Q (pc + 3) ls (.ref C.2.1 :: st) (uK C.1 C.2.1 (.inl c), C.2.1 + 1, C.2.2 + N) (u1 I C.2.1 0) (u1 P C.2.1 none) (u1 L C.2.1 0)) : Wd G y cc mL rt rk Z Q pc ls st C I P L := by
  intro p l e R s m args below meth c0 Qm sl0 H locs cells slots arr hX hH hL
  have hts := hX.2.2.2.2.1
  have hKn := hX.2.2.2.2.2.1.1.1 c r hr
  obtain ⟨o1, o2, o3⟩ := clOK c r hr
  have h1 := hH.2.2.2.1; have h2 := hH.2.2.2.2.1; have h3 := hX.2.2.2.2.2.2.2.2.2.1; have h4 := hX.2.2.2.2.2.2.2.2.2.2.1
  refine W.newcK hX.1 hX.2.1 hX.2.2.2.1 (hts _ hq) (hts _ hi) (hts _ hini) rfl hd (by omega) (by omega) hKn.2.1 hH.2.1 fun H1 kC hkC e1 z1 oo1 => ?_
  refine k p l e R s m args below meth c0 Qm sl0 H1 locs (cells + 1) (slots + N) arr hX (ch_new hH hX.2.2.2.2.2.2.1 z1 oo1 ⟨r, hr, ?_⟩ (fun b j hb => ⟨by unfold u1; rw [if_neg hb], by unfold u1; rw [if_neg hb], by unfold u1; rw [if_neg hb]⟩) hz1 hz2) hL
  refine (u_born (tyC c) hts o1 hKn hkC e1 o2).to fun j hj => ?_
  show defaultValue (tyC c j) = fV (tyC c j) (u1 I C.2.1 0) (u1 P C.2.1 none) (u1 L C.2.1 0) C.2.1 j
  have := o2 j hj
  revert this
  cases htj : tyC c j <;> intro this <;> simp [fV, u1, defaultValue, zI_0, zL_0, va_rf]
  all_goals first | exact absurd htj (tyC_ok hr hj).1 | exact absurd htj (tyC_ok hr hj).2
end CALLS

