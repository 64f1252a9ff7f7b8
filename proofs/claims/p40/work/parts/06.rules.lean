/-! the judgement of a method: from place pc, with locals ls, stack st and memory, the method ends with Q -/
def RetI (cc : ByteArray) (rt : Option FieldType) (pc : Nat) : Option Value → Prop
  | none => decode cc pc = .ok (.return_, 1) ∧ rt = none
  | some (.int x) => decode cc pc = .ok (.ireturn, 1) ∧ ∃ ty, rt = some ty ∧ narrow ty (.int x) = .int x
  | some (.long _) => decode cc pc = .ok (.lreturn, 1) ∧ rt = some .long
  | some (.ref _) => decode cc pc = .ok (.areturn, 1) ∧ ∃ n, rt = some (.object n)
  | _ => False
/-- what a method does not know stays as it is -/
def FrK (D : Nat → Option Kd) (H0 : Heap) (K : Nat → Option Kd) (H : Heap) : Prop := ∀ q, q < H0.size → D q = none → K q = none ∧ H[q]? = H0[q]?
theorem FrK.put {D K : Nat → Option Kd} {H0 H H' : Heap} {a : Nat} {kd : Kd} (h : FrK D H0 K H) (hK : K a = some kd) (e3 : ∀ q, q ≠ a → H'[q]? = H[q]?) : FrK D H0 K H' := fun q h1 h2 => ⟨(h q h1 h2).1, (e3 q (fun e => by have h3 := (h q h1 h2).1; rw [e, hK] at h3; cases h3)).trans (h q h1 h2).2⟩
theorem FrK.tr {D K K1 : Nat → Option Kd} {H0 H H1 : Heap} (h : FrK D H0 K H) (h2 : FrK K H K1 H1) (hs : H0.size ≤ H.size) : FrK D H0 K1 H1 := fun q a b => ⟨(h2 q (Nat.lt_of_lt_of_le a hs) (h q a b).1).1, (h2 q (Nat.lt_of_lt_of_le a hs) (h q a b).1).2.trans (h q a b).2⟩
def Ch (G : WG) (s : State) (sl0 : Nat × (Nat → Option Kd)) (Z : Nat × Nat) (C : CF) (I : MI) (P : MP) (L : ML) (H : Heap) (locs : List Loc) (cells slots : Nat) : Prop :=
  Rep G s C.1 I P L H ∧ H.size = C.2.1 ∧ va_S (gA G) s.heap H locs ∧ cells + s.heap.size = C.2.1 ∧ slots + sl0.1 = C.2.2 ∧ C.2.1 ≤ Z.1 ∧ C.2.2 ≤ Z.2 ∧ FrK sl0.2 s.heap C.1 H
def Cx (G : WG) (y : MethodName) (cc : ByteArray) (mL : Nat) (rt : Option FieldType) (rk : Nat) (Z : Nat × Nat) (Q : Post) (p : Program) (l : Launch) (e : Env) (R : Room) (s : State) (m : MethodId) (args : Array Value) (below : List Frame) (meth : Method) (c : Code) (Qm : State → Prop) (sl0 : Nat × (Nat → Option Kd)) : Prop :=
  p.tables.exec = Jvm.exec ∧ c.code = cc ∧ c.maxLocals = mL ∧ s.vm.findClass y.cls = some m.cls ∧ (∀ w ∈ LW, w.before args s = true) ∧ EnvG G s ∧ gB G ≤ s.heap.size ∧ rk ≤ R.frames ∧ 64 * rk ≤ R.locals ∧ Z.1 ≤ R.cells + s.heap.size ∧ Z.2 ≤ R.slots + sl0.1 ∧ meth.name = y.name ∧
  ∀ (v : Option Value) (H : Heap) (locs : List Loc) (cells slots : Nat) (arr : Array Slot) (C : CF) (I : MI) (P : MP) (L : ML) (pc : Nat), Q v C I P L → Ch G s sl0 Z C I P L H locs cells slots → RetI cc rt pc v → W p l e R s m args below meth c H locs cells slots Qm (F0 m pc arr v.toList)
def Wd (G : WG) (y : MethodName) (cc : ByteArray) (mL : Nat) (rt : Option FieldType) (rk : Nat) (Z : Nat × Nat) (Q : Post) (pc : Nat) (ls : List (Option Value)) (st : List Value) (C : CF) (I : MI) (P : MP) (L : ML) : Prop :=
  ∀ (p : Program) (l : Launch) (e : Env) (R : Room) (s : State) (m : MethodId) (args : Array Value) (below : List Frame) (meth : Method) (c : Code) (Qm : State → Prop) (sl0 : Nat × (Nat → Option Kd)) (H : Heap) (locs : List Loc) (cells slots : Nat) (arr : Array Slot),
    Cx G y cc mL rt rk Z Q p l e R s m args below meth c Qm sl0 → Ch G s sl0 Z C I P L H locs cells slots → Lk arr mL ls → W p l e R s m args below meth c H locs cells slots Qm (F0 m pc arr st)
/-! locals: a store kills a long that it cuts -/
def kl (ls : List (Option Value)) (i : Nat) : List (Option Value) := match ls[i]? with
  | some (some (.long _)) => ls.set i none
  | some (some (.double _)) => ls.set i none
  | _ => ls
def st1 (ls : List (Option Value)) (i : Nat) (v : Value) : List (Option Value) := match i with
  | 0 => ls.set 0 (some v)
  | j + 1 => (kl ls j).set (j + 1) (some v)
def st2 (ls : List (Option Value)) (i : Nat) (v : Value) : List (Option Value) := match i with
  | 0 => (ls.set 0 (some v)).set 1 none
  | j + 1 => ((kl ls j).set (j + 1) (some v)).set (j + 2) none
theorem kl_len (ls : List (Option Value)) (i : Nat) : (kl ls i).length = ls.length := by
  unfold kl; split <;> simp
theorem kl_at {ls : List (Option Value)} {i j : Nat} {v : Value} (h : (kl ls i)[j]? = some (some v)) : ls[j]? = some (some v) ∧ ¬ (j = i ∧ v.category = 2) := by
  unfold kl at h
  split at h
  · rename_i x hx
    by_cases hj : j = i
    · subst hj
      rw [List.getElem?_set_self (List.getElem?_eq_some_iff.mp hx).1] at h; simp at h
    · rw [List.getElem?_set_ne (Ne.symm hj)] at h
      exact ⟨h, fun q => hj q.1⟩
  · rename_i x hx
    by_cases hj : j = i
    · subst hj
      rw [List.getElem?_set_self (List.getElem?_eq_some_iff.mp hx).1] at h; simp at h
    · rw [List.getElem?_set_ne (Ne.symm hj)] at h
      exact ⟨h, fun q => hj q.1⟩
  · rename_i h1 h2
    refine ⟨h, fun q => ?_⟩
    obtain ⟨rfl, hc⟩ := q
    cases v <;> simp [Value.category] at hc
    · exact h1 _ h
    · exact h2 _ h
def lsA (ls : List (Option Value)) : List (Nat × Value) := (List.range ls.length).filterMap fun i => match ls[i]? with
  | some (some v) => some (i, v)
  | _ => none
theorem lsA_in {ls : List (Option Value)} {i : Nat} {v : Value} : (i, v) ∈ lsA ls ↔ ls[i]? = some (some v) := by
  unfold lsA
  rw [List.mem_filterMap]
  constructor
  · rintro ⟨j, -, h⟩
    split at h
    · rename_i w hw; cases h; exact hw
    · cases h
  · intro h
    exact ⟨i, List.mem_range.mpr (List.getElem?_eq_some_iff.mp h).1, by rw [h]⟩
theorem Lk.has {arr : Array Slot} {nL : Nat} {ls : List (Option Value)} (h : Lk arr nL ls) : lv_has arr nL (lsA ls) := ⟨h.1, h.2.1, fun q hq => h.2.2.2 q.1 q.2 (lsA_in.mp hq)⟩
theorem lk_st1 {arr arr' : Array Slot} {nL i : Nat} {ls : List (Option Value)} {v : Value} (h : Lk arr nL ls) (h' : lv_has arr' nL ((i, v) :: (lsA ls).filter (fun q => !(q.1 == i) && !(q.1 + 1 == i && q.2.category == 2)))) : Lk arr' nL (st1 ls i v) := by
  obtain ⟨a1, a2, a3⟩ := h'
  refine ⟨a1, a2, ?_, fun j w hj => ?_⟩
  · cases i <;> simp [st1, kl_len, h.2.2.1]
  · by_cases hji : j = i
    · subst hji
      have hv : w = v := by
        cases j with
        | zero => simp [st1, List.getElem?_set] at hj; exact hj.2.symm
        | succ j => simp [st1, List.getElem?_set] at hj; exact hj.2.symm
      subst hv
      exact a3 _ List.mem_cons_self
    · refine a3 (j, w) (List.mem_cons_of_mem _ (List.mem_filter.mpr ?_))
      cases i with
      | zero =>
        simp only [st1] at hj
        rw [List.getElem?_set_ne (Ne.symm hji)] at hj
        exact ⟨lsA_in.mpr hj, by simp; omega⟩
      | succ i =>
        simp only [st1] at hj
        rw [List.getElem?_set_ne (Ne.symm hji)] at hj
        obtain ⟨g1, g2⟩ := kl_at hj
        refine ⟨lsA_in.mpr g1, ?_⟩
        simp only [Bool.and_eq_true, Bool.not_eq_true', beq_eq_false_iff_ne, Bool.and_eq_false_iff]
        refine ⟨hji, ?_⟩
        by_cases hk : j = i
        · right; intro hc; exact g2 ⟨hk, hc⟩
        · left; omega
theorem lk_st2 {arr arr' : Array Slot} {nL i : Nat} {ls : List (Option Value)} {v : Value} (h : Lk arr nL ls) (h' : lv_has arr' nL ((i, v) :: (lsA ls).filter (fun q => !(q.1 == i) && (!(q.1 == i + 1) && !(q.1 + 1 == i && q.2.category == 2))))) : Lk arr' nL (st2 ls i v) := by
  obtain ⟨a1, a2, a3⟩ := h'
  refine ⟨a1, a2, ?_, fun j w hj => ?_⟩
  · cases i <;> simp [st2, kl_len, h.2.2.1]
  · have hj1 : j ≠ i + 1 := by
      rintro rfl
      cases i with
      | zero => simp [st2, List.getElem?_set] at hj
      | succ i => simp [st2, List.getElem?_set] at hj
    by_cases hji : j = i
    · subst hji
      have hv : w = v := by
        cases j with
        | zero => simp [st2, List.getElem?_set] at hj; exact hj.2.symm
        | succ j => simp [st2, List.getElem?_set] at hj; exact hj.2.symm
      subst hv
      exact a3 _ List.mem_cons_self
    · refine a3 (j, w) (List.mem_cons_of_mem _ (List.mem_filter.mpr ?_))
      cases i with
      | zero =>
        simp only [st2] at hj
        rw [List.getElem?_set_ne (Ne.symm hj1), List.getElem?_set_ne (Ne.symm hji)] at hj
        exact ⟨lsA_in.mpr hj, by simp; omega⟩
      | succ i =>
        simp only [st2] at hj
        rw [List.getElem?_set_ne (Ne.symm hj1), List.getElem?_set_ne (Ne.symm hji)] at hj
        obtain ⟨g1, g2⟩ := kl_at hj
        refine ⟨lsA_in.mpr g1, ?_⟩
        simp only [Bool.and_eq_true, Bool.not_eq_true', beq_eq_false_iff_ne, Bool.and_eq_false_iff]
        refine ⟨hji, hj1, ?_⟩
        by_cases hk : j = i
        · right; intro hc; exact g2 ⟨hk, hc⟩
        · left; omega
/-! operations on bits, as the machine does them -/
def b_and (x z : Int) : Int := (zI x &&& zI z).toInt
def b_or (x z : Int) : Int := (zI x ||| zI z).toInt
def b_xor (x z : Int) : Int := (zI x ^^^ zI z).toInt
def b_shl (x z : Int) : Int := (zI x <<< (zI z &&& 31)).toInt
def b_shr (x z : Int) : Int := (zI x >>> (zI z &&& 31)).toInt
def b_ushr (x z : Int) : Int := ((zI x).toUInt32 >>> ((zI z).toUInt32 &&& Int32.toUInt32 31)).toInt32.toInt
def b_char (x : Int) : Int := ((zI x).toUInt32 % 65536).toInt32.toInt
theorem zI_div {x z : Int} (hx : 0 ≤ x) (hx2 : iR x) (hz : 0 < z) (hz2 : iR z) : zI x / zI z = zI (x / z) := by
  rw [← zI_self (zI x / zI z)]
  congr 1
  rw [Int32.toInt_div_of_ne_right _ _ (by rw [show (-1 : Int32) = zI (-1) from rfl]; intro h; rw [zI_eq hz2 (by constructor <;> decide)] at h; omega), zI_toInt hx2, zI_toInt hz2]
  exact Int.tdiv_eq_ediv_of_nonneg hx
theorem zI_ne0 {z : Int} (hz : z ≠ 0) (hz2 : iR z) : ¬ zI z = 0 := by rw [← zI_0, zI_eq hz2 iR_0]; exact hz
theorem zI_rem {x z : Int} (hx : 0 ≤ x) (hx2 : iR x) (hz : 0 < z) (hz2 : iR z) : zI x - zI x / zI z * zI z = zI (x % z) := by
  rw [zI_div hx hx2 hz hz2, zI_mul, zI_sub]
  congr 1
  have := Int.emod_def x z
  rw [this, Int.mul_comm]
theorem zI_remT {x z : Int} (hx2 : iR x) (hz2 : iR z) : zI x - zI x / zI z * zI z = zI (x.tmod z) := by
  rw [← zI_self (zI x - zI x / zI z * zI z), rem_toInt, zI_toInt hx2, zI_toInt hz2]
theorem zL_div {x z : Int} (hx : 0 ≤ x) (hx2 : lR x) (hz : 0 < z) (hz2 : lR z) : zL x / zL z = zL (x / z) := by
  rw [← zL_self (zL x / zL z)]
  congr 1
  rw [Int64.toInt_div_of_ne_right _ _ (by rw [show (-1 : Int64) = zL (-1) from rfl]; intro h; rw [zL_eq hz2 (by constructor <;> decide)] at h; omega), zL_toInt hx2, zL_toInt hz2]
  exact Int.tdiv_eq_ediv_of_nonneg hx
theorem zL_ne0 {z : Int} (hz : z ≠ 0) (hz2 : lR z) : ¬ zL z = 0 := by rw [← zL_0, zL_eq hz2 lR_0]; exact hz
theorem zL_rem {x z : Int} (hx : 0 ≤ x) (hx2 : lR x) (hz : 0 < z) (hz2 : lR z) : zL x - zL x / zL z * zL z = zL (x % z) := by
  rw [zL_div hx hx2 hz hz2, zL_mul, zL_sub]
  congr 1
  have := Int.emod_def x z
  rw [this, Int.mul_comm]
theorem zI_long {x : Int} (h : iR x) : (zI x).toInt64 = zL x := by
  rw [← zL_self (zI x).toInt64]
  congr 1
  rw [Int32.toInt_toInt64, zI_toInt h]
theorem zL_int (x : Int) : (zL x).toInt32 = zI x := by
  rw [← zI_self (zL x).toInt32]
  refine Int32.toInt_inj.mp ?_
  show (Int32.ofInt _).toInt = (Int32.ofInt _).toInt
  simp [zL]

section RULES
variable {G : WG} {y : MethodName} {cc : ByteArray} {mL : Nat} {rt : Option FieldType} {rk : Nat} {Z : Nat × Nat} {Q : Post} {pc : Nat} {ls : List (Option Value)} {st : List Value} {C : CF} {I : MI} {P : MP} {L : ML}
theorem r_iconst {n : Int} (hd : decode cc pc = .ok (.iconst n, 1))  (k : Wd G y cc mL rt rk Z Q (pc + 1) ls (.int (zI n) :: st) C I P L) : Wd G y cc mL rt rk Z Q pc ls st C I P L := by
  intro p l e R s m args below meth c Qm sl0 H locs cells slots arr hX hH hL
  have k1 := k p l e R s m args below meth c Qm sl0 H locs cells slots arr hX hH hL
  exact lv_iconst hX.1 hX.2.1 hd rfl k1

theorem r_bipush {n : Int} (hd : decode cc pc = .ok (.bipush n, 2)) (hv : (Int8.ofInt n).toInt32 = zI n) (k : Wd G y cc mL rt rk Z Q (pc + 2) ls (.int (zI n) :: st) C I P L) : Wd G y cc mL rt rk Z Q pc ls st C I P L := by
  intro p l e R s m args below meth c Qm sl0 H locs cells slots arr hX hH hL
  have k1 := k p l e R s m args below meth c Qm sl0 H locs cells slots arr hX hH hL
  exact lv_bipush hX.1 hX.2.1 hd hv k1

theorem r_sipush {n : Int} (hd : decode cc pc = .ok (.sipush n, 3)) (hv : (Int16.ofInt n).toInt32 = zI n) (k : Wd G y cc mL rt rk Z Q (pc + 3) ls (.int (zI n) :: st) C I P L) : Wd G y cc mL rt rk Z Q pc ls st C I P L := by
  intro p l e R s m args below meth c Qm sl0 H locs cells slots arr hX hH hL
  have k1 := k p l e R s m args below meth c Qm sl0 H locs cells slots arr hX hH hL
  exact lv_sipush hX.1 hX.2.1 hd hv k1

theorem r_lconst {n : Fin 2} {v : Int} (hd : decode cc pc = .ok (.lconst n, 1)) (hv : Int64.ofNat (n : Nat) = zL v) (k : Wd G y cc mL rt rk Z Q (pc + 1) ls (.long (zL v) :: st) C I P L) : Wd G y cc mL rt rk Z Q pc ls st C I P L := by
  intro p l e R s m args below meth c Qm sl0 H locs cells slots arr hX hH hL
  have k1 := k p l e R s m args below meth c Qm sl0 H locs cells slots arr hX hH hL
  exact lv_lconst hX.1 hX.2.1 hd hv k1

theorem r_ldc {idx : Nat} {v : Int} (hd : decode cc pc = .ok (.ldc idx, 2)) (hq : Cond.constant y.cls idx (zI v) ∈ LW) (k : Wd G y cc mL rt rk Z Q (pc + 2) ls (.int (zI v) :: st) C I P L) : Wd G y cc mL rt rk Z Q pc ls st C I P L := by
  intro p l e R s m args below meth c Qm sl0 H locs cells slots arr hX hH hL
  exact lv_ldc hX.1 hX.2.1 hX.2.2.2.1 (hX.2.2.2.2.1 _ hq) hd (k p l e R s m args below meth c Qm sl0 H locs cells slots arr hX hH hL)

theorem r_ldc_w {idx : Nat} {v : Int} (hd : decode cc pc = .ok (.ldc_w idx, 3)) (hq : Cond.constant y.cls idx (zI v) ∈ LW) (k : Wd G y cc mL rt rk Z Q (pc + 3) ls (.int (zI v) :: st) C I P L) : Wd G y cc mL rt rk Z Q pc ls st C I P L := by
  intro p l e R s m args below meth c Qm sl0 H locs cells slots arr hX hH hL
  exact lv_ldcw hX.1 hX.2.1 hX.2.2.2.1 (hX.2.2.2.2.1 _ hq) hd (k p l e R s m args below meth c Qm sl0 H locs cells slots arr hX hH hL)

theorem r_ldc2_w {idx : Nat} {v : Int} (hd : decode cc pc = .ok (.ldc2_w idx, 3)) (hq : Cond.constantLong y.cls idx (zL v) ∈ LW) (k : Wd G y cc mL rt rk Z Q (pc + 3) ls (.long (zL v) :: st) C I P L) : Wd G y cc mL rt rk Z Q pc ls st C I P L := by
  intro p l e R s m args below meth c Qm sl0 H locs cells slots arr hX hH hL
  exact lv_ldc2 hX.1 hX.2.1 hX.2.2.2.1 (hX.2.2.2.2.1 _ hq) hd (k p l e R s m args below meth c Qm sl0 H locs cells slots arr hX hH hL)

theorem r_null  (hd : decode cc pc = .ok (.aconst_null, 1)) (k : Wd G y cc mL rt rk Z Q (pc + 1) ls (.null :: st) C I P L) : Wd G y cc mL rt rk Z Q pc ls st C I P L := by
  intro p l e R s m args below meth c Qm sl0 H locs cells slots arr hX hH hL
  exact lv_null hX.1 hX.2.1 hd (k p l e R s m args below meth c Qm sl0 H locs cells slots arr hX hH hL)

theorem r_iload_n {j : Fin 4} {x : Int32} (hd : decode cc pc = .ok (.iload_n j, 1)) (hl : ls[(j : Nat)]? = some (some (.int x))) (k : Wd G y cc mL rt rk Z Q (pc + 1) ls (.int x :: st) C I P L) : Wd G y cc mL rt rk Z Q pc ls st C I P L := by
  intro p l e R s m args below meth c Qm sl0 H locs cells slots arr hX hH hL
  exact lv_iload_n hX.1 hX.2.1 hd rfl (hL.2.2.2 _ _ hl) (k p l e R s m args below meth c Qm sl0 H locs cells slots arr hX hH hL)

theorem r_iload {j : Nat} {x : Int32} (hd : decode cc pc = .ok (.iload j, 2)) (hl : ls[j]? = some (some (.int x))) (k : Wd G y cc mL rt rk Z Q (pc + 2) ls (.int x :: st) C I P L) : Wd G y cc mL rt rk Z Q pc ls st C I P L := by
  intro p l e R s m args below meth c Qm sl0 H locs cells slots arr hX hH hL
  exact lv_iload hX.1 hX.2.1 hd (hL.2.2.2 _ _ hl) (k p l e R s m args below meth c Qm sl0 H locs cells slots arr hX hH hL)

theorem r_lload_n {j : Fin 4} {x : Int64} (hd : decode cc pc = .ok (.lload_n j, 1)) (hl : ls[(j : Nat)]? = some (some (.long x))) (k : Wd G y cc mL rt rk Z Q (pc + 1) ls (.long x :: st) C I P L) : Wd G y cc mL rt rk Z Q pc ls st C I P L := by
  intro p l e R s m args below meth c Qm sl0 H locs cells slots arr hX hH hL
  exact lv_lload_n hX.1 hX.2.1 hd rfl (hL.2.2.2 _ _ hl) (k p l e R s m args below meth c Qm sl0 H locs cells slots arr hX hH hL)

theorem r_lload {j : Nat} {x : Int64} (hd : decode cc pc = .ok (.lload j, 2)) (hl : ls[j]? = some (some (.long x))) (k : Wd G y cc mL rt rk Z Q (pc + 2) ls (.long x :: st) C I P L) : Wd G y cc mL rt rk Z Q pc ls st C I P L := by
  intro p l e R s m args below meth c Qm sl0 H locs cells slots arr hX hH hL
  exact lv_lload hX.1 hX.2.1 hd (hL.2.2.2 _ _ hl) (k p l e R s m args below meth c Qm sl0 H locs cells slots arr hX hH hL)

theorem r_aload_n {j : Fin 4} {x : Nat} (hd : decode cc pc = .ok (.aload_n j, 1)) (hl : ls[(j : Nat)]? = some (some (.ref x))) (k : Wd G y cc mL rt rk Z Q (pc + 1) ls (.ref x :: st) C I P L) : Wd G y cc mL rt rk Z Q pc ls st C I P L := by
  intro p l e R s m args below meth c Qm sl0 H locs cells slots arr hX hH hL
  exact lv_aload_n hX.1 hX.2.1 hd rfl (hL.2.2.2 _ _ hl) (k p l e R s m args below meth c Qm sl0 H locs cells slots arr hX hH hL)

theorem r_aload {j : Nat} {x : Nat} (hd : decode cc pc = .ok (.aload j, 2)) (hl : ls[j]? = some (some (.ref x))) (k : Wd G y cc mL rt rk Z Q (pc + 2) ls (.ref x :: st) C I P L) : Wd G y cc mL rt rk Z Q pc ls st C I P L := by
  intro p l e R s m args below meth c Qm sl0 H locs cells slots arr hX hH hL
  exact lv_aload hX.1 hX.2.1 hd (hL.2.2.2 _ _ hl) (k p l e R s m args below meth c Qm sl0 H locs cells slots arr hX hH hL)

theorem r_istore_n {j : Fin 4} {x : Int32} (hd : decode cc pc = .ok (.istore_n j, 1)) (hn : (j : Nat) < mL) (k : Wd G y cc mL rt rk Z Q (pc + 1) (st1 ls (j : Nat) (.int x)) st C I P L) : Wd G y cc mL rt rk Z Q pc ls (.int x :: st) C I P L := by
  intro p l e R s m args below meth c Qm sl0 H locs cells slots arr hX hH hL
  exact lv_istore_n hX.1 hX.2.1 hd rfl hL.has hn rfl (fun arr1 h1 => k p l e R s m args below meth c Qm sl0 H locs cells slots arr1 hX hH (lk_st1 hL h1))

theorem r_istore {j : Nat} {x : Int32} (hd : decode cc pc = .ok (.istore j, 2)) (hn : j < mL) (k : Wd G y cc mL rt rk Z Q (pc + 2) (st1 ls j (.int x)) st C I P L) : Wd G y cc mL rt rk Z Q pc ls (.int x :: st) C I P L := by
  intro p l e R s m args below meth c Qm sl0 H locs cells slots arr hX hH hL
  exact lv_istore hX.1 hX.2.1 hd hL.has hn rfl (fun arr1 h1 => k p l e R s m args below meth c Qm sl0 H locs cells slots arr1 hX hH (lk_st1 hL h1))

theorem r_lstore_n {j : Fin 4} {x : Int64} (hd : decode cc pc = .ok (.lstore_n j, 1)) (hn : (j : Nat) + 1 < mL) (k : Wd G y cc mL rt rk Z Q (pc + 1) (st2 ls (j : Nat) (.long x)) st C I P L) : Wd G y cc mL rt rk Z Q pc ls (.long x :: st) C I P L := by
  intro p l e R s m args below meth c Qm sl0 H locs cells slots arr hX hH hL
  exact lv_lstore_n hX.1 hX.2.1 hd rfl hL.has hn rfl (fun arr1 h1 => k p l e R s m args below meth c Qm sl0 H locs cells slots arr1 hX hH (lk_st2 hL h1))

theorem r_lstore {j : Nat} {x : Int64} (hd : decode cc pc = .ok (.lstore j, 2)) (hn : j + 1 < mL) (k : Wd G y cc mL rt rk Z Q (pc + 2) (st2 ls j (.long x)) st C I P L) : Wd G y cc mL rt rk Z Q pc ls (.long x :: st) C I P L := by
  intro p l e R s m args below meth c Qm sl0 H locs cells slots arr hX hH hL
  exact lv_lstore hX.1 hX.2.1 hd hL.has hn rfl (fun arr1 h1 => k p l e R s m args below meth c Qm sl0 H locs cells slots arr1 hX hH (lk_st2 hL h1))

theorem r_astore_n {j : Fin 4} {x : Nat} (hd : decode cc pc = .ok (.astore_n j, 1)) (hn : (j : Nat) < mL) (k : Wd G y cc mL rt rk Z Q (pc + 1) (st1 ls (j : Nat) (.ref x)) st C I P L) : Wd G y cc mL rt rk Z Q pc ls (.ref x :: st) C I P L := by
  intro p l e R s m args below meth c Qm sl0 H locs cells slots arr hX hH hL
  exact lv_astore_n hX.1 hX.2.1 hd rfl hL.has hn rfl (fun arr1 h1 => k p l e R s m args below meth c Qm sl0 H locs cells slots arr1 hX hH (lk_st1 hL h1))

theorem r_astore {j : Nat} {x : Nat} (hd : decode cc pc = .ok (.astore j, 2)) (hn : j < mL) (k : Wd G y cc mL rt rk Z Q (pc + 2) (st1 ls j (.ref x)) st C I P L) : Wd G y cc mL rt rk Z Q pc ls (.ref x :: st) C I P L := by
  intro p l e R s m args below meth c Qm sl0 H locs cells slots arr hX hH hL
  exact lv_astore hX.1 hX.2.1 hd hL.has hn rfl (fun arr1 h1 => k p l e R s m args below meth c Qm sl0 H locs cells slots arr1 hX hH (lk_st1 hL h1))

theorem r_iinc {j : Nat} {n x : Int} (hd : decode cc pc = .ok (.iinc j n, 3)) (hl : ls[j]? = some (some (.int (zI x)))) (k : Wd G y cc mL rt rk Z Q (pc + 3) (st1 ls j (.int (zI (x + n)))) st C I P L) : Wd G y cc mL rt rk Z Q pc ls st C I P L := by
  intro p l e R s m args below meth c Qm sl0 H locs cells slots arr hX hH hL
  have hn : j < mL := by have := (List.getElem?_eq_some_iff.mp hl).1; rw [hL.2.2.1] at this; exact this
  obtain ⟨q, hq⟩ := List.getElem?_of_mem (lsA_in.mpr hl)
  exact lv_iinc hX.1 hX.2.1 hd hL.has hq (zI_add x n) hn rfl (fun arr1 h1 => k p l e R s m args below meth c Qm sl0 H locs cells slots arr1 hX hH (lk_st1 hL h1))

theorem r_iadd {x z : Int} (hd : decode cc pc = .ok (.iadd, 1))  (k : Wd G y cc mL rt rk Z Q (pc + 1) ls (.int (zI (x + z)) :: st) C I P L) : Wd G y cc mL rt rk Z Q pc ls (.int (zI z) :: .int (zI x) :: st) C I P L := by
  intro p l e R s m args below meth c Qm sl0 H locs cells slots arr hX hH hL
  have k1 := k p l e R s m args below meth c Qm sl0 H locs cells slots arr hX hH hL
  rw [← zI_add x z] at k1
  exact lv_iadd hX.1 hX.2.1 hd k1

theorem r_isub {x z : Int} (hd : decode cc pc = .ok (.isub, 1))  (k : Wd G y cc mL rt rk Z Q (pc + 1) ls (.int (zI (x - z)) :: st) C I P L) : Wd G y cc mL rt rk Z Q pc ls (.int (zI z) :: .int (zI x) :: st) C I P L := by
  intro p l e R s m args below meth c Qm sl0 H locs cells slots arr hX hH hL
  have k1 := k p l e R s m args below meth c Qm sl0 H locs cells slots arr hX hH hL
  rw [← zI_sub x z] at k1
  exact lv_isub hX.1 hX.2.1 hd k1

theorem r_imul {x z : Int} (hd : decode cc pc = .ok (.imul, 1))  (k : Wd G y cc mL rt rk Z Q (pc + 1) ls (.int (zI (x * z)) :: st) C I P L) : Wd G y cc mL rt rk Z Q pc ls (.int (zI z) :: .int (zI x) :: st) C I P L := by
  intro p l e R s m args below meth c Qm sl0 H locs cells slots arr hX hH hL
  have k1 := k p l e R s m args below meth c Qm sl0 H locs cells slots arr hX hH hL
  rw [← zI_mul x z] at k1
  exact lv_imul hX.1 hX.2.1 hd k1

theorem r_iand {x z : Int} (hd : decode cc pc = .ok (.iand, 1)) (k : Wd G y cc mL rt rk Z Q (pc + 1) ls (.int (zI (b_and x z)) :: st) C I P L) : Wd G y cc mL rt rk Z Q pc ls (.int (zI z) :: .int (zI x) :: st) C I P L := by
  intro p l e R s m args below meth c Qm sl0 H locs cells slots arr hX hH hL
  have k1 := k p l e R s m args below meth c Qm sl0 H locs cells slots arr hX hH hL
  unfold b_and at k1
  rw [zI_self] at k1
  exact lv_iand hX.1 hX.2.1 hd k1

theorem r_ior {x z : Int} (hd : decode cc pc = .ok (.ior, 1)) (k : Wd G y cc mL rt rk Z Q (pc + 1) ls (.int (zI (b_or x z)) :: st) C I P L) : Wd G y cc mL rt rk Z Q pc ls (.int (zI z) :: .int (zI x) :: st) C I P L := by
  intro p l e R s m args below meth c Qm sl0 H locs cells slots arr hX hH hL
  have k1 := k p l e R s m args below meth c Qm sl0 H locs cells slots arr hX hH hL
  unfold b_or at k1
  rw [zI_self] at k1
  exact lv_ior hX.1 hX.2.1 hd k1

theorem r_ixor {x z : Int} (hd : decode cc pc = .ok (.ixor, 1)) (k : Wd G y cc mL rt rk Z Q (pc + 1) ls (.int (zI (b_xor x z)) :: st) C I P L) : Wd G y cc mL rt rk Z Q pc ls (.int (zI z) :: .int (zI x) :: st) C I P L := by
  intro p l e R s m args below meth c Qm sl0 H locs cells slots arr hX hH hL
  have k1 := k p l e R s m args below meth c Qm sl0 H locs cells slots arr hX hH hL
  unfold b_xor at k1
  rw [zI_self] at k1
  exact lv_ixor hX.1 hX.2.1 hd k1

theorem r_ishl {x z : Int} (hd : decode cc pc = .ok (.ishl, 1)) (k : Wd G y cc mL rt rk Z Q (pc + 1) ls (.int (zI (b_shl x z)) :: st) C I P L) : Wd G y cc mL rt rk Z Q pc ls (.int (zI z) :: .int (zI x) :: st) C I P L := by
  intro p l e R s m args below meth c Qm sl0 H locs cells slots arr hX hH hL
  have k1 := k p l e R s m args below meth c Qm sl0 H locs cells slots arr hX hH hL
  unfold b_shl at k1
  rw [zI_self] at k1
  exact lv_ishl hX.1 hX.2.1 hd k1

theorem r_ishr {x z : Int} (hd : decode cc pc = .ok (.ishr, 1)) (k : Wd G y cc mL rt rk Z Q (pc + 1) ls (.int (zI (b_shr x z)) :: st) C I P L) : Wd G y cc mL rt rk Z Q pc ls (.int (zI z) :: .int (zI x) :: st) C I P L := by
  intro p l e R s m args below meth c Qm sl0 H locs cells slots arr hX hH hL
  have k1 := k p l e R s m args below meth c Qm sl0 H locs cells slots arr hX hH hL
  unfold b_shr at k1
  rw [zI_self] at k1
  exact lv_ishr hX.1 hX.2.1 hd k1

theorem r_iushr {x z : Int} (hd : decode cc pc = .ok (.iushr, 1)) (k : Wd G y cc mL rt rk Z Q (pc + 1) ls (.int (zI (b_ushr x z)) :: st) C I P L) : Wd G y cc mL rt rk Z Q pc ls (.int (zI z) :: .int (zI x) :: st) C I P L := by
  intro p l e R s m args below meth c Qm sl0 H locs cells slots arr hX hH hL
  have k1 := k p l e R s m args below meth c Qm sl0 H locs cells slots arr hX hH hL
  unfold b_ushr at k1
  rw [zI_self] at k1
  exact lv_iushr hX.1 hX.2.1 hd rfl k1

theorem r_i2c {x : Int} (hd : decode cc pc = .ok (.i2c, 1)) (k : Wd G y cc mL rt rk Z Q (pc + 1) ls (.int (zI (b_char x)) :: st) C I P L) : Wd G y cc mL rt rk Z Q pc ls (.int (zI x) :: st) C I P L := by
  intro p l e R s m args below meth c Qm sl0 H locs cells slots arr hX hH hL
  have k1 := k p l e R s m args below meth c Qm sl0 H locs cells slots arr hX hH hL
  unfold b_char at k1
  rw [zI_self] at k1
  exact lv_i2c hX.1 hX.2.1 hd rfl k1

theorem r_ineg {x : Int} (hd : decode cc pc = .ok (.ineg, 1))  (k : Wd G y cc mL rt rk Z Q (pc + 1) ls (.int (zI (-x)) :: st) C I P L) : Wd G y cc mL rt rk Z Q pc ls (.int (zI x) :: st) C I P L := by
  intro p l e R s m args below meth c Qm sl0 H locs cells slots arr hX hH hL
  have k1 := k p l e R s m args below meth c Qm sl0 H locs cells slots arr hX hH hL
  rw [← zI_neg x] at k1
  exact lv_ineg hX.1 hX.2.1 hd k1

theorem r_idiv {x z : Int} (hd : decode cc pc = .ok (.idiv, 1)) (hx : 0 ≤ x) (hx2 : iR x) (hz : 0 < z) (hz2 : iR z) (k : Wd G y cc mL rt rk Z Q (pc + 1) ls (.int (zI (x / z)) :: st) C I P L) : Wd G y cc mL rt rk Z Q pc ls (.int (zI z) :: .int (zI x) :: st) C I P L := by
  intro p l e R s m args below meth c Qm sl0 H locs cells slots arr hX hH hL
  have k1 := k p l e R s m args below meth c Qm sl0 H locs cells slots arr hX hH hL
  rw [← zI_div hx hx2 hz hz2] at k1
  exact lv_idiv hX.1 hX.2.1 hd (zI_ne0 (by omega) hz2) k1

theorem r_irem {x z : Int} (hd : decode cc pc = .ok (.irem, 1)) (hx : 0 ≤ x) (hx2 : iR x) (hz : 0 < z) (hz2 : iR z) (k : Wd G y cc mL rt rk Z Q (pc + 1) ls (.int (zI (x % z)) :: st) C I P L) : Wd G y cc mL rt rk Z Q pc ls (.int (zI z) :: .int (zI x) :: st) C I P L := by
  intro p l e R s m args below meth c Qm sl0 H locs cells slots arr hX hH hL
  have k1 := k p l e R s m args below meth c Qm sl0 H locs cells slots arr hX hH hL
  rw [← zI_rem hx hx2 hz hz2] at k1
  exact lv_irem hX.1 hX.2.1 hd (zI_ne0 (by omega) hz2) k1

theorem r_iremT {x z : Int} (hd : decode cc pc = .ok (.irem, 1)) (hx2 : iR x) (hz : z ≠ 0) (hz2 : iR z) (k : Wd G y cc mL rt rk Z Q (pc + 1) ls (.int (zI (x.tmod z)) :: st) C I P L) : Wd G y cc mL rt rk Z Q pc ls (.int (zI z) :: .int (zI x) :: st) C I P L := by
  intro p l e R s m args below meth c Qm sl0 H locs cells slots arr hX hH hL
  have k1 := k p l e R s m args below meth c Qm sl0 H locs cells slots arr hX hH hL
  rw [← zI_remT hx2 hz2] at k1
  exact lv_irem hX.1 hX.2.1 hd (zI_ne0 hz hz2) k1

theorem r_ladd {x z : Int} (hd : decode cc pc = .ok (.ladd, 1))  (k : Wd G y cc mL rt rk Z Q (pc + 1) ls (.long (zL (x + z)) :: st) C I P L) : Wd G y cc mL rt rk Z Q pc ls (.long (zL z) :: .long (zL x) :: st) C I P L := by
  intro p l e R s m args below meth c Qm sl0 H locs cells slots arr hX hH hL
  have k1 := k p l e R s m args below meth c Qm sl0 H locs cells slots arr hX hH hL
  rw [← zL_add x z] at k1
  exact lv_ladd hX.1 hX.2.1 hd k1

theorem r_lmul {x z : Int} (hd : decode cc pc = .ok (.lmul, 1))  (k : Wd G y cc mL rt rk Z Q (pc + 1) ls (.long (zL (x * z)) :: st) C I P L) : Wd G y cc mL rt rk Z Q pc ls (.long (zL z) :: .long (zL x) :: st) C I P L := by
  intro p l e R s m args below meth c Qm sl0 H locs cells slots arr hX hH hL
  have k1 := k p l e R s m args below meth c Qm sl0 H locs cells slots arr hX hH hL
  rw [← zL_mul x z] at k1
  exact lv_lmul hX.1 hX.2.1 hd k1

theorem r_ldiv {x z : Int} (hd : decode cc pc = .ok (.ldiv, 1)) (hx : 0 ≤ x) (hx2 : lR x) (hz : 0 < z) (hz2 : lR z) (k : Wd G y cc mL rt rk Z Q (pc + 1) ls (.long (zL (x / z)) :: st) C I P L) : Wd G y cc mL rt rk Z Q pc ls (.long (zL z) :: .long (zL x) :: st) C I P L := by
  intro p l e R s m args below meth c Qm sl0 H locs cells slots arr hX hH hL
  have k1 := k p l e R s m args below meth c Qm sl0 H locs cells slots arr hX hH hL
  rw [← zL_div hx hx2 hz hz2] at k1
  exact lv_ldiv hX.1 hX.2.1 hd (zL_ne0 (by omega) hz2) k1

theorem r_lrem {x z : Int} (hd : decode cc pc = .ok (.lrem, 1)) (hx : 0 ≤ x) (hx2 : lR x) (hz : 0 < z) (hz2 : lR z) (k : Wd G y cc mL rt rk Z Q (pc + 1) ls (.long (zL (x % z)) :: st) C I P L) : Wd G y cc mL rt rk Z Q pc ls (.long (zL z) :: .long (zL x) :: st) C I P L := by
  intro p l e R s m args below meth c Qm sl0 H locs cells slots arr hX hH hL
  have k1 := k p l e R s m args below meth c Qm sl0 H locs cells slots arr hX hH hL
  rw [← zL_rem hx hx2 hz hz2] at k1
  exact lv_lrem hX.1 hX.2.1 hd (zL_ne0 (by omega) hz2) k1

theorem r_i2l {x : Int} (hd : decode cc pc = .ok (.i2l, 1)) (hx : iR x) (k : Wd G y cc mL rt rk Z Q (pc + 1) ls (.long (zL x) :: st) C I P L) : Wd G y cc mL rt rk Z Q pc ls (.int (zI x) :: st) C I P L := by
  intro p l e R s m args below meth c Qm sl0 H locs cells slots arr hX hH hL
  exact lv_i2l hX.1 hX.2.1 hd (zI_long hx) (k p l e R s m args below meth c Qm sl0 H locs cells slots arr hX hH hL)

theorem r_i2lw {x : Int} (hd : decode cc pc = .ok (.i2l, 1)) (k : Wd G y cc mL rt rk Z Q (pc + 1) ls (.long (zL (zI x).toInt) :: st) C I P L) : Wd G y cc mL rt rk Z Q pc ls (.int (zI x) :: st) C I P L := by
  intro p l e R s m args below meth c Qm sl0 H locs cells slots arr hX hH hL
  refine lv_i2l hX.1 hX.2.1 hd ?_ (k p l e R s m args below meth c Qm sl0 H locs cells slots arr hX hH hL)
  rw [← zI_self (zI x), zI_long (iR_self _), zI_self]

theorem r_l2i {x : Int} (hd : decode cc pc = .ok (.l2i, 1)) (k : Wd G y cc mL rt rk Z Q (pc + 1) ls (.int (zI x) :: st) C I P L) : Wd G y cc mL rt rk Z Q pc ls (.long (zL x) :: st) C I P L := by
  intro p l e R s m args below meth c Qm sl0 H locs cells slots arr hX hH hL
  exact lv_l2i hX.1 hX.2.1 hd (zL_int x) (k p l e R s m args below meth c Qm sl0 H locs cells slots arr hX hH hL)

theorem r_dup {v : Value} (hd : decode cc pc = .ok (.dup, 1)) (hv : v.category = 1) (k : Wd G y cc mL rt rk Z Q (pc + 1) ls (v :: v :: st) C I P L) : Wd G y cc mL rt rk Z Q pc ls (v :: st) C I P L := by
  intro p l e R s m args below meth c Qm sl0 H locs cells slots arr hX hH hL
  exact lv_dup hX.1 hX.2.1 hd hv (k p l e R s m args below meth c Qm sl0 H locs cells slots arr hX hH hL)

theorem r_pop {v : Value} (hd : decode cc pc = .ok (.pop, 1)) (hv : v.category = 1) (k : Wd G y cc mL rt rk Z Q (pc + 1) ls st C I P L) : Wd G y cc mL rt rk Z Q pc ls (v :: st) C I P L := by
  intro p l e R s m args below meth c Qm sl0 H locs cells slots arr hX hH hL
  exact lv_pop hX.1 hX.2.1 hd hv (k p l e R s m args below meth c Qm sl0 H locs cells slots arr hX hH hL)

theorem r_dup_x1 {v w : Value} (hd : decode cc pc = .ok (.dup_x1, 1)) (hv : v.category = 1) (hw : w.category = 1) (k : Wd G y cc mL rt rk Z Q (pc + 1) ls (v :: w :: v :: st) C I P L) : Wd G y cc mL rt rk Z Q pc ls (v :: w :: st) C I P L := by
  intro p l e R s m args below meth c Qm sl0 H locs cells slots arr hX hH hL
  exact lv_dup_x1 hX.1 hX.2.1 hd hv hw (k p l e R s m args below meth c Qm sl0 H locs cells slots arr hX hH hL)

theorem r_dup2 {v w : Value} (hd : decode cc pc = .ok (.dup2, 1)) (hv : v.category = 1) (hw : w.category = 1) (k : Wd G y cc mL rt rk Z Q (pc + 1) ls (v :: w :: v :: w :: st) C I P L) : Wd G y cc mL rt rk Z Q pc ls (v :: w :: st) C I P L := by
  intro p l e R s m args below meth c Qm sl0 H locs cells slots arr hX hH hL
  exact lv_dup2_11 hX.1 hX.2.1 hd hv hw (k p l e R s m args below meth c Qm sl0 H locs cells slots arr hX hH hL)

theorem r_if_eq {x : Int} {off : Int} (tgt : Nat) (hd : decode cc pc = .ok (.ifCond .eq off, 3)) (ht : (pc : Int) + off = (tgt : Int)) (hx : iR x) (k1 : x = 0 → Wd G y cc mL rt rk Z Q tgt ls st C I P L) (k2 : ¬ (x = 0) → Wd G y cc mL rt rk Z Q (pc + 3) ls st C I P L) : Wd G y cc mL rt rk Z Q pc ls (.int (zI x) :: st) C I P L := by
  intro p l e R s m args below meth c Qm sl0 H locs cells slots arr hX hH hL
  have hi := zI_eq hx iR_0
  refine lv_if_eq hX.1 hX.2.1 hd ht (fun q => ?_) (fun q => ?_)
  · exact k1 (hi.mp q) p l e R s m args below meth c Qm sl0 H locs cells slots arr hX hH hL
  · exact k2 (fun q2 => q (hi.mpr q2)) p l e R s m args below meth c Qm sl0 H locs cells slots arr hX hH hL

theorem r_icmp_eq {x z : Int} {off : Int} (tgt : Nat) (hd : decode cc pc = .ok (.if_icmp .eq off, 3)) (ht : (pc : Int) + off = (tgt : Int)) (hx : iR x) (hz : iR z) (k1 : x = z → Wd G y cc mL rt rk Z Q tgt ls st C I P L) (k2 : ¬ (x = z) → Wd G y cc mL rt rk Z Q (pc + 3) ls st C I P L) : Wd G y cc mL rt rk Z Q pc ls (.int (zI z) :: .int (zI x) :: st) C I P L := by
  intro p l e R s m args below meth c Qm sl0 H locs cells slots arr hX hH hL
  have hi := zI_eq hx hz
  refine lv_icmp_eq hX.1 hX.2.1 hd ht (fun q => ?_) (fun q => ?_)
  · exact k1 (hi.mp q) p l e R s m args below meth c Qm sl0 H locs cells slots arr hX hH hL
  · exact k2 (fun q2 => q (hi.mpr q2)) p l e R s m args below meth c Qm sl0 H locs cells slots arr hX hH hL

theorem r_if_ne {x : Int} {off : Int} (tgt : Nat) (hd : decode cc pc = .ok (.ifCond .ne off, 3)) (ht : (pc : Int) + off = (tgt : Int)) (hx : iR x) (k1 : ¬ x = 0 → Wd G y cc mL rt rk Z Q tgt ls st C I P L) (k2 : x = 0 → Wd G y cc mL rt rk Z Q (pc + 3) ls st C I P L) : Wd G y cc mL rt rk Z Q pc ls (.int (zI x) :: st) C I P L := by
  intro p l e R s m args below meth c Qm sl0 H locs cells slots arr hX hH hL
  have hi := not_congr (zI_eq hx iR_0)
  refine lv_if_ne hX.1 hX.2.1 hd ht (fun q => ?_) (fun q => ?_)
  · exact k1 (hi.mp q) p l e R s m args below meth c Qm sl0 H locs cells slots arr hX hH hL
  · exact k2 ((zI_eq hx iR_0).mp q) p l e R s m args below meth c Qm sl0 H locs cells slots arr hX hH hL

theorem r_icmp_ne {x z : Int} {off : Int} (tgt : Nat) (hd : decode cc pc = .ok (.if_icmp .ne off, 3)) (ht : (pc : Int) + off = (tgt : Int)) (hx : iR x) (hz : iR z) (k1 : ¬ x = z → Wd G y cc mL rt rk Z Q tgt ls st C I P L) (k2 : x = z → Wd G y cc mL rt rk Z Q (pc + 3) ls st C I P L) : Wd G y cc mL rt rk Z Q pc ls (.int (zI z) :: .int (zI x) :: st) C I P L := by
  intro p l e R s m args below meth c Qm sl0 H locs cells slots arr hX hH hL
  have hi := not_congr (zI_eq hx hz)
  refine lv_icmp_ne hX.1 hX.2.1 hd ht (fun q => ?_) (fun q => ?_)
  · exact k1 (hi.mp q) p l e R s m args below meth c Qm sl0 H locs cells slots arr hX hH hL
  · exact k2 ((zI_eq hx hz).mp q) p l e R s m args below meth c Qm sl0 H locs cells slots arr hX hH hL

theorem r_if_lt {x : Int} {off : Int} (tgt : Nat) (hd : decode cc pc = .ok (.ifCond .lt off, 3)) (ht : (pc : Int) + off = (tgt : Int)) (hx : iR x) (k1 : x < 0 → Wd G y cc mL rt rk Z Q tgt ls st C I P L) (k2 : ¬ (x < 0) → Wd G y cc mL rt rk Z Q (pc + 3) ls st C I P L) : Wd G y cc mL rt rk Z Q pc ls (.int (zI x) :: st) C I P L := by
  intro p l e R s m args below meth c Qm sl0 H locs cells slots arr hX hH hL
  have hi := zI_lt hx iR_0
  refine lv_if_lt hX.1 hX.2.1 hd ht (fun q => ?_) (fun q => ?_)
  · exact k1 (hi.mp q) p l e R s m args below meth c Qm sl0 H locs cells slots arr hX hH hL
  · exact k2 (fun q2 => q (hi.mpr q2)) p l e R s m args below meth c Qm sl0 H locs cells slots arr hX hH hL

theorem r_icmp_lt {x z : Int} {off : Int} (tgt : Nat) (hd : decode cc pc = .ok (.if_icmp .lt off, 3)) (ht : (pc : Int) + off = (tgt : Int)) (hx : iR x) (hz : iR z) (k1 : x < z → Wd G y cc mL rt rk Z Q tgt ls st C I P L) (k2 : ¬ (x < z) → Wd G y cc mL rt rk Z Q (pc + 3) ls st C I P L) : Wd G y cc mL rt rk Z Q pc ls (.int (zI z) :: .int (zI x) :: st) C I P L := by
  intro p l e R s m args below meth c Qm sl0 H locs cells slots arr hX hH hL
  have hi := zI_lt hx hz
  refine lv_icmp_lt hX.1 hX.2.1 hd ht (fun q => ?_) (fun q => ?_)
  · exact k1 (hi.mp q) p l e R s m args below meth c Qm sl0 H locs cells slots arr hX hH hL
  · exact k2 (fun q2 => q (hi.mpr q2)) p l e R s m args below meth c Qm sl0 H locs cells slots arr hX hH hL

theorem r_if_ge {x : Int} {off : Int} (tgt : Nat) (hd : decode cc pc = .ok (.ifCond .ge off, 3)) (ht : (pc : Int) + off = (tgt : Int)) (hx : iR x) (k1 : 0 ≤ x → Wd G y cc mL rt rk Z Q tgt ls st C I P L) (k2 : ¬ (0 ≤ x) → Wd G y cc mL rt rk Z Q (pc + 3) ls st C I P L) : Wd G y cc mL rt rk Z Q pc ls (.int (zI x) :: st) C I P L := by
  intro p l e R s m args below meth c Qm sl0 H locs cells slots arr hX hH hL
  have hi := zI_le iR_0 hx
  refine lv_if_ge hX.1 hX.2.1 hd ht (fun q => ?_) (fun q => ?_)
  · exact k1 (hi.mp q) p l e R s m args below meth c Qm sl0 H locs cells slots arr hX hH hL
  · exact k2 (fun q2 => q (hi.mpr q2)) p l e R s m args below meth c Qm sl0 H locs cells slots arr hX hH hL

theorem r_icmp_ge {x z : Int} {off : Int} (tgt : Nat) (hd : decode cc pc = .ok (.if_icmp .ge off, 3)) (ht : (pc : Int) + off = (tgt : Int)) (hx : iR x) (hz : iR z) (k1 : z ≤ x → Wd G y cc mL rt rk Z Q tgt ls st C I P L) (k2 : ¬ (z ≤ x) → Wd G y cc mL rt rk Z Q (pc + 3) ls st C I P L) : Wd G y cc mL rt rk Z Q pc ls (.int (zI z) :: .int (zI x) :: st) C I P L := by
  intro p l e R s m args below meth c Qm sl0 H locs cells slots arr hX hH hL
  have hi := zI_le hz hx
  refine lv_icmp_ge hX.1 hX.2.1 hd ht (fun q => ?_) (fun q => ?_)
  · exact k1 (hi.mp q) p l e R s m args below meth c Qm sl0 H locs cells slots arr hX hH hL
  · exact k2 (fun q2 => q (hi.mpr q2)) p l e R s m args below meth c Qm sl0 H locs cells slots arr hX hH hL

theorem r_if_gt {x : Int} {off : Int} (tgt : Nat) (hd : decode cc pc = .ok (.ifCond .gt off, 3)) (ht : (pc : Int) + off = (tgt : Int)) (hx : iR x) (k1 : 0 < x → Wd G y cc mL rt rk Z Q tgt ls st C I P L) (k2 : ¬ (0 < x) → Wd G y cc mL rt rk Z Q (pc + 3) ls st C I P L) : Wd G y cc mL rt rk Z Q pc ls (.int (zI x) :: st) C I P L := by
  intro p l e R s m args below meth c Qm sl0 H locs cells slots arr hX hH hL
  have hi := zI_lt iR_0 hx
  refine lv_if_gt hX.1 hX.2.1 hd ht (fun q => ?_) (fun q => ?_)
  · exact k1 (hi.mp q) p l e R s m args below meth c Qm sl0 H locs cells slots arr hX hH hL
  · exact k2 (fun q2 => q (hi.mpr q2)) p l e R s m args below meth c Qm sl0 H locs cells slots arr hX hH hL

theorem r_icmp_gt {x z : Int} {off : Int} (tgt : Nat) (hd : decode cc pc = .ok (.if_icmp .gt off, 3)) (ht : (pc : Int) + off = (tgt : Int)) (hx : iR x) (hz : iR z) (k1 : z < x → Wd G y cc mL rt rk Z Q tgt ls st C I P L) (k2 : ¬ (z < x) → Wd G y cc mL rt rk Z Q (pc + 3) ls st C I P L) : Wd G y cc mL rt rk Z Q pc ls (.int (zI z) :: .int (zI x) :: st) C I P L := by
  intro p l e R s m args below meth c Qm sl0 H locs cells slots arr hX hH hL
  have hi := zI_lt hz hx
  refine lv_icmp_gt hX.1 hX.2.1 hd ht (fun q => ?_) (fun q => ?_)
  · exact k1 (hi.mp q) p l e R s m args below meth c Qm sl0 H locs cells slots arr hX hH hL
  · exact k2 (fun q2 => q (hi.mpr q2)) p l e R s m args below meth c Qm sl0 H locs cells slots arr hX hH hL

theorem r_if_le {x : Int} {off : Int} (tgt : Nat) (hd : decode cc pc = .ok (.ifCond .le off, 3)) (ht : (pc : Int) + off = (tgt : Int)) (hx : iR x) (k1 : x ≤ 0 → Wd G y cc mL rt rk Z Q tgt ls st C I P L) (k2 : ¬ (x ≤ 0) → Wd G y cc mL rt rk Z Q (pc + 3) ls st C I P L) : Wd G y cc mL rt rk Z Q pc ls (.int (zI x) :: st) C I P L := by
  intro p l e R s m args below meth c Qm sl0 H locs cells slots arr hX hH hL
  have hi := zI_le hx iR_0
  refine lv_if_le hX.1 hX.2.1 hd ht (fun q => ?_) (fun q => ?_)
  · exact k1 (hi.mp q) p l e R s m args below meth c Qm sl0 H locs cells slots arr hX hH hL
  · exact k2 (fun q2 => q (hi.mpr q2)) p l e R s m args below meth c Qm sl0 H locs cells slots arr hX hH hL

theorem r_icmp_le {x z : Int} {off : Int} (tgt : Nat) (hd : decode cc pc = .ok (.if_icmp .le off, 3)) (ht : (pc : Int) + off = (tgt : Int)) (hx : iR x) (hz : iR z) (k1 : x ≤ z → Wd G y cc mL rt rk Z Q tgt ls st C I P L) (k2 : ¬ (x ≤ z) → Wd G y cc mL rt rk Z Q (pc + 3) ls st C I P L) : Wd G y cc mL rt rk Z Q pc ls (.int (zI z) :: .int (zI x) :: st) C I P L := by
  intro p l e R s m args below meth c Qm sl0 H locs cells slots arr hX hH hL
  have hi := zI_le hx hz
  refine lv_icmp_le hX.1 hX.2.1 hd ht (fun q => ?_) (fun q => ?_)
  · exact k1 (hi.mp q) p l e R s m args below meth c Qm sl0 H locs cells slots arr hX hH hL
  · exact k2 (fun q2 => q (hi.mpr q2)) p l e R s m args below meth c Qm sl0 H locs cells slots arr hX hH hL

theorem cmp_lt {x z : Int} (hx : lR x) (hz : lR z) : lg_cmp (zL x) (zL z) < 0 ↔ x < z := by
  unfold lg_cmp
  by_cases h1 : zL x > zL z
  · rw [if_pos h1]; have := (zL_lt hz hx).mp h1; constructor
    · intro h; exact absurd h (by decide)
    · intro h; omega
  · rw [if_neg h1]
    have h1' : ¬ z < x := fun h => h1 ((zL_lt hz hx).mpr h)
    by_cases h2 : zL x = zL z
    · rw [if_pos h2]; have := (zL_eq hx hz).mp h2; constructor
      · intro h; exact absurd h (by decide)
      · intro h; omega
    · rw [if_neg h2]; have : x ≠ z := fun h => h2 ((zL_eq hx hz).mpr h); constructor
      · intro _; omega
      · intro _; decide
theorem cmp_gt {x z : Int} (hx : lR x) (hz : lR z) : 0 < lg_cmp (zL x) (zL z) ↔ z < x := by
  unfold lg_cmp
  by_cases h1 : zL x > zL z
  · rw [if_pos h1]; have := (zL_lt hz hx).mp h1; constructor
    · intro _; exact this
    · intro _; decide
  · rw [if_neg h1]
    have h1' : ¬ z < x := fun h => h1 ((zL_lt hz hx).mpr h)
    by_cases h2 : zL x = zL z
    · rw [if_pos h2]; constructor
      · intro h; exact absurd h (by decide)
      · intro h; omega
    · rw [if_neg h2]; constructor
      · intro h; exact absurd h (by decide)
      · intro h; omega
theorem cmp_eq {x z : Int} (hx : lR x) (hz : lR z) : lg_cmp (zL x) (zL z) = 0 ↔ x = z := by
  unfold lg_cmp
  by_cases h1 : zL x > zL z
  · rw [if_pos h1]; have := (zL_lt hz hx).mp h1; constructor
    · intro h; exact absurd h (by decide)
    · intro h; omega
  · rw [if_neg h1]
    by_cases h2 : zL x = zL z
    · rw [if_pos h2]; have := (zL_eq hx hz).mp h2; constructor
      · intro _; exact this
      · intro _; rfl
    · rw [if_neg h2]; constructor
      · intro h; exact absurd h (by decide)
      · intro h; exact absurd ((zL_eq hx hz).mpr h) h2
theorem i32_le_not (a b : Int32) : a ≤ b ↔ ¬ b < a := by rw [Int32.le_iff_toInt_le, Int32.lt_iff_toInt_lt]; omega
theorem r_lcmp_eq {x z : Int} {off : Int} (tgt : Nat) (hd : decode cc pc = .ok (.lcmp, 1)) (hd2 : decode cc (pc + 1) = .ok (.ifCond .eq off, 3)) (ht : ((pc + 1 : Nat) : Int) + off = (tgt : Int)) (hx : lR x) (hz : lR z) (k1 : x = z → Wd G y cc mL rt rk Z Q tgt ls st C I P L) (k2 : ¬ (x = z) → Wd G y cc mL rt rk Z Q (pc + 1 + 3) ls st C I P L) : Wd G y cc mL rt rk Z Q pc ls (.long (zL z) :: .long (zL x) :: st) C I P L := by
  intro p l e R s m args below meth c Qm sl0 H locs cells slots arr hX hH hL
  have hi := cmp_eq hx hz
  refine W.lcmp hX.1 hX.2.1 hd (lv_if_eq hX.1 hX.2.1 hd2 ht (fun q => ?_) (fun q => ?_))
  · exact k1 (hi.mp q) p l e R s m args below meth c Qm sl0 H locs cells slots arr hX hH hL
  · exact k2 (fun q2 => q (hi.mpr q2)) p l e R s m args below meth c Qm sl0 H locs cells slots arr hX hH hL

theorem r_lcmp_ne {x z : Int} {off : Int} (tgt : Nat) (hd : decode cc pc = .ok (.lcmp, 1)) (hd2 : decode cc (pc + 1) = .ok (.ifCond .ne off, 3)) (ht : ((pc + 1 : Nat) : Int) + off = (tgt : Int)) (hx : lR x) (hz : lR z) (k1 : ¬ x = z → Wd G y cc mL rt rk Z Q tgt ls st C I P L) (k2 : x = z → Wd G y cc mL rt rk Z Q (pc + 1 + 3) ls st C I P L) : Wd G y cc mL rt rk Z Q pc ls (.long (zL z) :: .long (zL x) :: st) C I P L := by
  intro p l e R s m args below meth c Qm sl0 H locs cells slots arr hX hH hL
  have hi := not_congr (cmp_eq hx hz)
  refine W.lcmp hX.1 hX.2.1 hd (lv_if_ne hX.1 hX.2.1 hd2 ht (fun q => ?_) (fun q => ?_))
  · exact k1 (hi.mp q) p l e R s m args below meth c Qm sl0 H locs cells slots arr hX hH hL
  · exact k2 ((cmp_eq hx hz).mp q) p l e R s m args below meth c Qm sl0 H locs cells slots arr hX hH hL

theorem r_lcmp_lt {x z : Int} {off : Int} (tgt : Nat) (hd : decode cc pc = .ok (.lcmp, 1)) (hd2 : decode cc (pc + 1) = .ok (.ifCond .lt off, 3)) (ht : ((pc + 1 : Nat) : Int) + off = (tgt : Int)) (hx : lR x) (hz : lR z) (k1 : x < z → Wd G y cc mL rt rk Z Q tgt ls st C I P L) (k2 : ¬ (x < z) → Wd G y cc mL rt rk Z Q (pc + 1 + 3) ls st C I P L) : Wd G y cc mL rt rk Z Q pc ls (.long (zL z) :: .long (zL x) :: st) C I P L := by
  intro p l e R s m args below meth c Qm sl0 H locs cells slots arr hX hH hL
  have hi := cmp_lt hx hz
  refine W.lcmp hX.1 hX.2.1 hd (lv_if_lt hX.1 hX.2.1 hd2 ht (fun q => ?_) (fun q => ?_))
  · exact k1 (hi.mp q) p l e R s m args below meth c Qm sl0 H locs cells slots arr hX hH hL
  · exact k2 (fun q2 => q (hi.mpr q2)) p l e R s m args below meth c Qm sl0 H locs cells slots arr hX hH hL

theorem r_lcmp_ge {x z : Int} {off : Int} (tgt : Nat) (hd : decode cc pc = .ok (.lcmp, 1)) (hd2 : decode cc (pc + 1) = .ok (.ifCond .ge off, 3)) (ht : ((pc + 1 : Nat) : Int) + off = (tgt : Int)) (hx : lR x) (hz : lR z) (k1 : ¬ x < z → Wd G y cc mL rt rk Z Q tgt ls st C I P L) (k2 : x < z → Wd G y cc mL rt rk Z Q (pc + 1 + 3) ls st C I P L) : Wd G y cc mL rt rk Z Q pc ls (.long (zL z) :: .long (zL x) :: st) C I P L := by
  intro p l e R s m args below meth c Qm sl0 H locs cells slots arr hX hH hL
  have hi := (i32_le_not _ _).trans (not_congr (cmp_lt hx hz))
  refine W.lcmp hX.1 hX.2.1 hd (lv_if_ge hX.1 hX.2.1 hd2 ht (fun q => ?_) (fun q => ?_))
  · exact k1 (hi.mp q) p l e R s m args below meth c Qm sl0 H locs cells slots arr hX hH hL
  · exact k2 (Decidable.byContradiction fun q2 => q (hi.mpr q2)) p l e R s m args below meth c Qm sl0 H locs cells slots arr hX hH hL

theorem r_lcmp_gt {x z : Int} {off : Int} (tgt : Nat) (hd : decode cc pc = .ok (.lcmp, 1)) (hd2 : decode cc (pc + 1) = .ok (.ifCond .gt off, 3)) (ht : ((pc + 1 : Nat) : Int) + off = (tgt : Int)) (hx : lR x) (hz : lR z) (k1 : z < x → Wd G y cc mL rt rk Z Q tgt ls st C I P L) (k2 : ¬ (z < x) → Wd G y cc mL rt rk Z Q (pc + 1 + 3) ls st C I P L) : Wd G y cc mL rt rk Z Q pc ls (.long (zL z) :: .long (zL x) :: st) C I P L := by
  intro p l e R s m args below meth c Qm sl0 H locs cells slots arr hX hH hL
  have hi := cmp_gt hx hz
  refine W.lcmp hX.1 hX.2.1 hd (lv_if_gt hX.1 hX.2.1 hd2 ht (fun q => ?_) (fun q => ?_))
  · exact k1 (hi.mp q) p l e R s m args below meth c Qm sl0 H locs cells slots arr hX hH hL
  · exact k2 (fun q2 => q (hi.mpr q2)) p l e R s m args below meth c Qm sl0 H locs cells slots arr hX hH hL

theorem r_lcmp_le {x z : Int} {off : Int} (tgt : Nat) (hd : decode cc pc = .ok (.lcmp, 1)) (hd2 : decode cc (pc + 1) = .ok (.ifCond .le off, 3)) (ht : ((pc + 1 : Nat) : Int) + off = (tgt : Int)) (hx : lR x) (hz : lR z) (k1 : ¬ z < x → Wd G y cc mL rt rk Z Q tgt ls st C I P L) (k2 : z < x → Wd G y cc mL rt rk Z Q (pc + 1 + 3) ls st C I P L) : Wd G y cc mL rt rk Z Q pc ls (.long (zL z) :: .long (zL x) :: st) C I P L := by
  intro p l e R s m args below meth c Qm sl0 H locs cells slots arr hX hH hL
  have hi := (i32_le_not _ _).trans (not_congr (cmp_gt hx hz))
  refine W.lcmp hX.1 hX.2.1 hd (lv_if_le hX.1 hX.2.1 hd2 ht (fun q => ?_) (fun q => ?_))
  · exact k1 (hi.mp q) p l e R s m args below meth c Qm sl0 H locs cells slots arr hX hH hL
  · exact k2 (Decidable.byContradiction fun q2 => q (hi.mpr q2)) p l e R s m args below meth c Qm sl0 H locs cells slots arr hX hH hL

theorem r_goto {off : Int} (tgt : Nat) (hd : decode cc pc = .ok (.goto off, 3)) (ht : (pc : Int) + off = (tgt : Int)) (k : Wd G y cc mL rt rk Z Q tgt ls st C I P L) : Wd G y cc mL rt rk Z Q pc ls st C I P L := by
  intro p l e R s m args below meth c Qm sl0 H locs cells slots arr hX hH hL
  exact lv_goto hX.1 hX.2.1 hd ht (k p l e R s m args below meth c Qm sl0 H locs cells slots arr hX hH hL)

theorem r_ifnonnull {off : Int} {x : Nat} (tgt : Nat) (hd : decode cc pc = .ok (.ifnonnull off, 3)) (ht : (pc : Int) + off = (tgt : Int)) (k : Wd G y cc mL rt rk Z Q tgt ls st C I P L) : Wd G y cc mL rt rk Z Q pc ls (.ref x :: st) C I P L := by
  intro p l e R s m args below meth c Qm sl0 H locs cells slots arr hX hH hL
  exact lv_ifnonnull hX.1 hX.2.1 hd ht (k p l e R s m args below meth c Qm sl0 H locs cells slots arr hX hH hL)

theorem r_ifnull {off : Int} {x : Nat} (hd : decode cc pc = .ok (.ifnull off, 3)) (k : Wd G y cc mL rt rk Z Q (pc + 3) ls st C I P L) : Wd G y cc mL rt rk Z Q pc ls (.ref x :: st) C I P L := by
  intro p l e R s m args below meth c Qm sl0 H locs cells slots arr hX hH hL
  exact lv_ifnull hX.1 hX.2.1 hd (k p l e R s m args below meth c Qm sl0 H locs cells slots arr hX hH hL)

theorem r_tsOut {dflt lo hi : Int} {offs : Array Int} {len : Nat} {x : Int} (tgt : Nat) (hd : decode cc pc = .ok (.tableswitch dflt lo hi offs, len)) (hx : iR x) (h : x < lo ∨ hi < x) (ht : (pc : Int) + dflt = (tgt : Int)) (k : Wd G y cc mL rt rk Z Q tgt ls st C I P L) : Wd G y cc mL rt rk Z Q pc ls (.int (zI x) :: st) C I P L := by
  intro p l e R s m args below meth c Qm sl0 H locs cells slots arr hX hH hL
  exact lv_tableOut hX.1 hX.2.1 hd (by rw [zI_toInt hx]; exact h) ht (k p l e R s m args below meth c Qm sl0 H locs cells slots arr hX hH hL)

theorem r_tsIn {dflt lo hi : Int} {offs : Array Int} {len : Nat} {x : Int} {off : Int} (tgt : Nat) (hd : decode cc pc = .ok (.tableswitch dflt lo hi offs, len)) (hx : iR x) (h1 : lo ≤ x) (h2 : x ≤ hi) (ho : offs[(x - lo).toNat]? = some off) (ht : (pc : Int) + off = (tgt : Int)) (k : Wd G y cc mL rt rk Z Q tgt ls st C I P L) : Wd G y cc mL rt rk Z Q pc ls (.int (zI x) :: st) C I P L := by
  intro p l e R s m args below meth c Qm sl0 H locs cells slots arr hX hH hL
  exact lv_tableIn hX.1 hX.2.1 hd (by rw [zI_toInt hx]; omega) (by rw [zI_toInt hx]; omega) (by rw [zI_toInt hx]; exact ho) ht (k p l e R s m args below meth c Qm sl0 H locs cells slots arr hX hH hL)

theorem r_iret {x : Int} {ty : FieldType} (hd : decode cc pc = .ok (.ireturn, 1)) (hr : rt = some ty) (hn : narrow ty (.int (zI x)) = .int (zI x)) (k : Q (some (.int (zI x))) C I P L) : Wd G y cc mL rt rk Z Q pc ls [.int (zI x)] C I P L := by
  intro p l e R s m args below meth c Qm sl0 H locs cells slots arr hX hH hL
  exact hX.2.2.2.2.2.2.2.2.2.2.2.2 (some (.int (zI x))) H locs cells slots arr C I P L pc k hH ⟨hd, ty, hr, hn⟩
theorem r_lret {x : Int} (hd : decode cc pc = .ok (.lreturn, 1)) (hr : rt = some .long) (k : Q (some (.long (zL x))) C I P L) : Wd G y cc mL rt rk Z Q pc ls [.long (zL x)] C I P L := by
  intro p l e R s m args below meth c Qm sl0 H locs cells slots arr hX hH hL
  exact hX.2.2.2.2.2.2.2.2.2.2.2.2 (some (.long (zL x))) H locs cells slots arr C I P L pc k hH ⟨hd, hr⟩
theorem r_aret {x : Nat} {n : String} (hd : decode cc pc = .ok (.areturn, 1)) (hr : rt = some (.object n)) (k : Q (some (.ref x)) C I P L) : Wd G y cc mL rt rk Z Q pc ls [.ref x] C I P L := by
  intro p l e R s m args below meth c Qm sl0 H locs cells slots arr hX hH hL
  exact hX.2.2.2.2.2.2.2.2.2.2.2.2 (some (.ref x)) H locs cells slots arr C I P L pc k hH ⟨hd, n, hr⟩
theorem r_vret  (hd : decode cc pc = .ok (.return_, 1)) (hr : rt = none) (k : Q (none) C I P L) : Wd G y cc mL rt rk Z Q pc ls [] C I P L := by
  intro p l e R s m args below meth c Qm sl0 H locs cells slots arr hX hH hL
  exact hX.2.2.2.2.2.2.2.2.2.2.2.2 (none) H locs cells slots arr C I P L pc k hH ⟨hd, hr⟩
end RULES

