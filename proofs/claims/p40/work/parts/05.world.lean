/-! the world's constants: classes' and array classes' numbers, where our cells begin, the static rows, the texts -/
abbrev WG : Type := va_G × (Nat → ClassId) × Nat × (Nat → Nat) × (Nat → Nat) × (Nat → Nat) × Option Nat
abbrev gD (G : WG) : va_G := G.1
abbrev gC (G : WG) : Nat → ClassId := G.2.1
abbrev gB (G : WG) : Nat := G.2.2.1
abbrev gT (G : WG) : Nat → Nat := G.2.2.2.1
abbrev gS (G : WG) : Nat → Nat := G.2.2.2.2.1
abbrev gV (G : WG) : Nat → Nat := G.2.2.2.2.2.1
abbrev gZ (G : WG) : Option Nat := G.2.2.2.2.2.2
def gA (G : WG) : Nat → Prop := fun q => gB G ≤ q
/-- an array's kind, by number -/
def aty : Nat → FieldType
  | 0 => .int
  | 1 => .int
  | 2 => .object "LongYear$Farm"
  | 3 => .object "LongYear$Family"
  | 4 => .object "LongYear$Farmers"
  | _ => .int
def tysG (G : WG) : List (ClassId × FieldType) := [(gC G 0, aty 0), (gC G 1, aty 1), (gC G 2, aty 2), (gC G 3, aty 3), (gC G 4, aty 4), (gC G 5, aty 5)]
theorem tysG_at (G : WG) {t : Nat} (h : t < 6) : (tysG G)[t]? = some (gC G t, aty t) := by
  match t, h with
  | 0, _ => rfl
  | 1, _ => rfl
  | 2, _ => rfl
  | 3, _ => rfl
  | 4, _ => rfl
  | 5, _ => rfl
  | t + 6, h => exact absurd h (by omega)
/-- a class's fields' types, by the class's number -/
def tyC : Nat → Nat → FieldType
  | 0 => tyX0
  | 1 => tyX1
  | 2 => tyX2
  | 3 => tyX3
  | 4 => tyX4
  | 5 => tyX5
  | 6 => tyX6
  | 7 => tyX7
  | 8 => tyX8
  | 9 => tyX9
  | 10 => tyX10
  | 11 => tyX11
  | _ => tyX12
/-- memory: ints, references and longs, each by cell and place -/
abbrev MI : Type := Nat → Nat → Int
abbrev MP : Type := Nat → Nat → Option Nat
abbrev ML : Type := Nat → Nat → Int
/-- a cell's kind: an object of a class, or an array of a kind and a length -/
abbrev Kd : Type := Nat ⊕ (Nat × Nat)
/-- the cells' kinds, how many cells the heap has, how many slots were taken -/
abbrev CF : Type := (Nat → Option Kd) × Nat × Nat
abbrev Post : Type := Option Value → CF → MI → MP → ML → Prop
def fV (ty : FieldType) (I : MI) (P : MP) (L : ML) (a k : Nat) : Value := match ty with
  | .long => .long (zL (L a k))
  | .object _ => va_rf (P a k)
  | .array _ => va_rf (P a k)
  | _ => .int (zI (I a k))
def cAt (G : WG) (U : State) (I : MI) (P : MP) (L : ML) (H : Heap) (a : Nat) : Kd → Prop
  | .inl c => ∃ r : vw_C, vwCl[c]? = some r ∧ t_OB a ((gD G).1 c) r.2.2 ((gD G).2 c) H (fun k => fV (tyC c k) I P L a k)
  | .inr q => ∃ cell : Cell, H[a]? = some cell ∧ U.isArrayOf cell (aty q.1) ∧ cell.vm ≠ .unknown ∧ q.2 ≤ cell.slots.size ∧ cell.slots.size.toInt32 = Int32.ofNat q.2 ∧ (∀ j, j < q.2 → cell.slots[j]? = some (fV (aty q.1) I P L a j)) ∧ (gB G ≤ a → cell.cls = gC G q.1)
def Rep (G : WG) (U : State) (K : Nat → Option Kd) (I : MI) (P : MP) (L : ML) (H : Heap) : Prop := ∀ (a : Nat) (kd : Kd), K a = some kd → cAt G U I P L H a kd
theorem cAt.lt {G : WG} {U : State} {I : MI} {P : MP} {L : ML} {H : Heap} {a : Nat} {kd : Kd} (h : cAt G U I P L H a kd) : a < H.size := by
  cases kd with
  | inl c => obtain ⟨r, -, cell, h2, -⟩ := h; exact (Array.getElem?_eq_some_iff.mp h2).1
  | inr q => obtain ⟨cell, h2, -⟩ := h; exact (Array.getElem?_eq_some_iff.mp h2).1
theorem fV_row {ty : FieldType} {I I' : MI} {P P' : MP} {L L' : ML} {a k : Nat} (h1 : I' a k = I a k) (h2 : P' a k = P a k) (h3 : L' a k = L a k) : fV ty I' P' L' a k = fV ty I P L a k := by
  cases ty <;> simp [fV, h1, h2, h3]
theorem cAt.kept {G : WG} {U : State} {I I' : MI} {P P' : MP} {L L' : ML} {H H' : Heap} {a : Nat} {kd : Kd} (h : cAt G U I P L H a kd) (hq : H'[a]? = H[a]?) (h1 : ∀ k, I' a k = I a k) (h2 : ∀ k, P' a k = P a k) (h3 : ∀ k, L' a k = L a k) : cAt G U I' P' L' H' a kd := by
  cases kd with
  | inl c =>
    obtain ⟨r, hr, h⟩ := h
    exact ⟨r, hr, (h.kept hq).to fun k _ => (fV_row (h1 k) (h2 k) (h3 k)).symm⟩
  | inr q =>
    obtain ⟨cell, e1, e2, e3, e4, e5, e6, e7⟩ := h
    exact ⟨cell, hq.trans e1, e2, e3, e4, e5, fun j hj => (e6 j hj).trans (congrArg some (fV_row (h1 j) (h2 j) (h3 j)).symm), e7⟩
theorem cAt.moved {G : WG} {u U : State} {I : MI} {P : MP} {L : ML} {H : Heap} {a : Nat} {kd : Kd} (hvm : u.vm.Alike U.vm) (h : cAt G u I P L H a kd) : cAt G U I P L H a kd := by
  cases kd with
  | inl c => exact h
  | inr q =>
    obtain ⟨cell, e1, e2, e3⟩ := h
    exact ⟨cell, e1, State.isArrayOf_alike hvm e2, e3⟩
theorem Rep.moved {G : WG} {u U : State} {K : Nat → Option Kd} {I : MI} {P : MP} {L : ML} {H : Heap} (hvm : u.vm.Alike U.vm) (h : Rep G u K I P L H) : Rep G U K I P L H := fun a kd e => (h a kd e).moved hvm
/-- memory with one place anew -/
def u2 {α : Type} (f : Nat → Nat → α) (a k : Nat) (v : α) : Nat → Nat → α := fun x j => if x = a ∧ j = k then v else f x j
/-- memory with one row anew -/
def u1 {α : Type} (f : Nat → Nat → α) (a : Nat) (v : α) : Nat → Nat → α := fun x j => if x = a then v else f x j
def uK (K : Nat → Option Kd) (a : Nat) (kd : Kd) : Nat → Option Kd := fun x => if x = a then some kd else K x
theorem u2_s {α : Type} (f : Nat → Nat → α) (a k : Nat) (v : α) : u2 f a k v a k = v := by simp [u2]
theorem u2_a {α : Type} (f : Nat → Nat → α) {a x : Nat} (k j : Nat) (v : α) (h : x ≠ a) : u2 f a k v x j = f x j := by simp [u2, h]
theorem u2_k {α : Type} (f : Nat → Nat → α) (a x : Nat) {k j : Nat} (v : α) (h : j ≠ k) : u2 f a k v x j = f x j := by simp [u2, h]
/-- what stands outside and stays: classes, links, static fields, texts -/
def NWl : List (String × Nat × MethodName × String) := [("LongYear", 9, ⟨"LongYear$Reader", "<init>", "()V"⟩, "LongYear"), ("LongYear", 22, ⟨"LongYear$Farmers", "<init>", "()V"⟩, "LongYear"), ("LongYear", 25, ⟨"LongYear$Sleepers", "<init>", "()V"⟩, "LongYear"), ("LongYear$Sleepers", 1, ⟨"LongYear$Farmers", "<init>", "()V"⟩, "LongYear"), ("LongYear", 28, ⟨"LongYear$Keepers", "<init>", "()V"⟩, "LongYear"), ("LongYear$Keepers", 1, ⟨"LongYear$Farmers", "<init>", "()V"⟩, "LongYear"), ("LongYear", 31, ⟨"LongYear$Makers", "<init>", "()V"⟩, "LongYear"), ("LongYear$Makers", 1, ⟨"LongYear$Farmers", "<init>", "()V"⟩, "LongYear"), ("LongYear", 34, ⟨"LongYear$Singers", "<init>", "()V"⟩, "LongYear"), ("LongYear$Singers", 1, ⟨"LongYear$Keepers", "<init>", "()V"⟩, "LongYear"), ("LongYear$Lump", 11, ⟨"LongYear$Books", "<init>", "()V"⟩, "LongYear"), ("LongYear$Farm", 23, ⟨"LongYear$Farmers", "<init>", "()V"⟩, "LongYear"), ("LongYear$Lump", 55, ⟨"LongYear", "leftOver", "(II)I"⟩, "LongYear"), ("LongYear$Lump", 51, ⟨"LongYear", "farmAt", "([LLongYear$Farm;I)LLongYear$Farm;"⟩, "LongYear"), ("LongYear$Farm", 90, ⟨"LongYear", "leftOver", "(II)I"⟩, "LongYear"), ("LongYear$Farm", 130, ⟨"LongYear", "stored", "(I)I"⟩, "LongYear"), ("LongYear$Trials", 82, ⟨"LongYear", "copy", "([I[I)V"⟩, "LongYear"), ("LongYear$Trials", 56, ⟨"LongYear", "farmAt", "([LLongYear$Farm;I)LLongYear$Farm;"⟩, "LongYear"), ("LongYear$Trials", 67, ⟨"LongYear", "put", "([III)V"⟩, "LongYear"), ("LongYear$Trials", 45, ⟨"LongYear", "at", "([II)I"⟩, "LongYear"), ("LongYear$Books", 50, ⟨"LongYear", "put", "([III)V"⟩, "LongYear"), ("LongYear$Books", 54, ⟨"LongYear", "at", "([II)I"⟩, "LongYear"), ("LongYear$Books", 46, ⟨"LongYear", "copy", "([I[I)V"⟩, "LongYear")]
def CWl : List (String × String) := [("LongYear$Sleepers", "LongYear$Farmers"), ("LongYear$Keepers", "LongYear$Farmers"), ("LongYear$Makers", "LongYear$Farmers"), ("LongYear$Singers", "LongYear$Farmers")]
def AOl : List String := ["LongYear$Farm", "LongYear$Family", "LongYear$Farmers"]
def EnvG (G : WG) (U : State) : Prop :=
  va_K (gD G) vwCl (tysG G) U ∧ (∀ w ∈ NWl, va_Nw (.methodLinkNest w.1 w.2.1 w.2.2.1 w.2.2.2) U) ∧ (∀ w ∈ CWl, va_Nw (.castable w.1 w.2) U) ∧ (∀ w ∈ AOl, va_AO w U) ∧ True
/-- the same at a callee's entry: the heap below our cells is as it was -/
theorem EnvG.go {G : WG} {s U : State} (h : EnvG G s) (hW : s.WarmedH U.vm) (hq : ∀ a : Nat, a < s.heap.size → ¬ gA G a → U.heap[a]? = s.heap[a]?) : EnvG G U := by
  obtain ⟨h1, h2, h3, h4, -⟩ := h
  have hal := hW.alike
  exact ⟨va_K.moved hal h1, fun w hw => va_Nw.warmM hW (h2 w hw), fun w hw => va_Nw.warmC hW (h3 w hw), fun w hw => va_AO.moved hal (h4 w hw), trivial⟩
theorem EnvG.same {G : WG} {s U : State} (h : EnvG G s) (hv : U.vm = s.vm) (hh : U.heap = s.heap) : EnvG G U := by
  obtain ⟨h1, h2, h3, h4, -⟩ := h
  have hal : s.vm.Alike U.vm := by rw [hv]; exact Vm.Alike.refl _
  exact ⟨va_K.moved hal h1, fun w hw => va_Nw.same rfl hv.symm (h2 w hw), fun w hw => va_Nw.same rfl hv.symm (h3 w hw), fun w hw => va_AO.moved hal (h4 w hw), trivial⟩
/-- the locals by their places -/
def Lk (arr : Array Slot) (nL : Nat) (ls : List (Option Value)) : Prop := arr.size = nL ∧ lv_wf arr ∧ ls.length = nL ∧ ∀ (i : Nat) (v : Value), ls[i]? = some (some v) → arr[i]? = some (.val v)
