/-! classes by number: what the tables say of their fields -/
theorem lyX0 : ∀ w ∈ u_ws RX0 TX0 11, w ∈ LW := by
  intro w hw
  obtain ⟨k, hk, rfl⟩ := List.mem_map.mp hw
  replace hk := List.mem_range.mp hk
  match k, hk with
  | 0, _ => exact q110
  | 1, _ => exact q112
  | 2, _ => exact q114
  | 3, _ => exact q116
  | 4, _ => exact q118
  | 5, _ => exact q120
  | 6, _ => exact q122
  | 7, _ => exact q124
  | 8, _ => exact q126
  | 9, _ => exact q128
  | 10, _ => exact q130
  | k + 11, hk => exact absurd hk (by omega)
theorem lyX1 : ∀ w ∈ u_ws RX1 TX1 5, w ∈ LW := by
  intro w hw
  obtain ⟨k, hk, rfl⟩ := List.mem_map.mp hw
  replace hk := List.mem_range.mp hk
  match k, hk with
  | 0, _ => exact q163
  | 1, _ => exact q165
  | 2, _ => exact q167
  | 3, _ => exact q169
  | 4, _ => exact q171
  | k + 5, hk => exact absurd hk (by omega)
theorem lyX2 : ∀ w ∈ u_ws RX2 TX2 13, w ∈ LW := by
  intro w hw
  obtain ⟨k, hk, rfl⟩ := List.mem_map.mp hw
  replace hk := List.mem_range.mp hk
  match k, hk with
  | 0, _ => exact q196
  | 1, _ => exact q198
  | 2, _ => exact q200
  | 3, _ => exact q202
  | 4, _ => exact q204
  | 5, _ => exact q206
  | 6, _ => exact q208
  | 7, _ => exact q210
  | 8, _ => exact q212
  | 9, _ => exact q214
  | 10, _ => exact q216
  | 11, _ => exact q218
  | 12, _ => exact q220
  | k + 13, hk => exact absurd hk (by omega)
theorem lyX3 : ∀ w ∈ u_ws RX3 TX3 0, w ∈ LW := fun w hw => absurd hw (by simp [u_ws])
theorem lyX4 : ∀ w ∈ u_ws RX4 TX4 0, w ∈ LW := fun w hw => absurd hw (by simp [u_ws])
theorem lyX5 : ∀ w ∈ u_ws RX5 TX5 5, w ∈ LW := by
  intro w hw
  obtain ⟨k, hk, rfl⟩ := List.mem_map.mp hw
  replace hk := List.mem_range.mp hk
  match k, hk with
  | 0, _ => exact q233
  | 1, _ => exact q235
  | 2, _ => exact q237
  | 3, _ => exact q239
  | 4, _ => exact q241
  | k + 5, hk => exact absurd hk (by omega)
theorem lyX6 : ∀ w ∈ u_ws RX6 TX6 0, w ∈ LW := fun w hw => absurd hw (by simp [u_ws])
theorem lyX7 : ∀ w ∈ u_ws RX7 TX7 7, w ∈ LW := by
  intro w hw
  obtain ⟨k, hk, rfl⟩ := List.mem_map.mp hw
  replace hk := List.mem_range.mp hk
  match k, hk with
  | 0, _ => exact q32
  | 1, _ => exact q34
  | 2, _ => exact q36
  | 3, _ => exact q38
  | 4, _ => exact q40
  | 5, _ => exact q42
  | 6, _ => exact q44
  | k + 7, hk => exact absurd hk (by omega)
theorem lyX8 : ∀ w ∈ u_ws RX8 TX8 0, w ∈ LW := fun w hw => absurd hw (by simp [u_ws])
theorem lyX9 : ∀ w ∈ u_ws RX9 TX9 0, w ∈ LW := fun w hw => absurd hw (by simp [u_ws])
theorem lyX10 : ∀ w ∈ u_ws RX10 TX10 7, w ∈ LW := by
  intro w hw
  obtain ⟨k, hk, rfl⟩ := List.mem_map.mp hw
  replace hk := List.mem_range.mp hk
  match k, hk with
  | 0, _ => exact q259
  | 1, _ => exact q261
  | 2, _ => exact q263
  | 3, _ => exact q265
  | 4, _ => exact q267
  | 5, _ => exact q269
  | 6, _ => exact q271
  | k + 7, hk => exact absurd hk (by omega)
theorem lyX11 : ∀ w ∈ u_ws RX11 TX11 13, w ∈ LW := by
  intro w hw
  obtain ⟨k, hk, rfl⟩ := List.mem_map.mp hw
  replace hk := List.mem_range.mp hk
  match k, hk with
  | 0, _ => exact q286
  | 1, _ => exact q288
  | 2, _ => exact q290
  | 3, _ => exact q292
  | 4, _ => exact q294
  | 5, _ => exact q296
  | 6, _ => exact q298
  | 7, _ => exact q300
  | 8, _ => exact q302
  | 9, _ => exact q304
  | 10, _ => exact q306
  | 11, _ => exact q308
  | 12, _ => exact q310
  | k + 13, hk => exact absurd hk (by omega)
theorem lyX12 : ∀ w ∈ u_ws RX12 TX12 0, w ∈ LW := fun w hw => absurd hw (by simp [u_ws])
theorem clOK : ∀ (c : Nat) (r : vw_C), vwCl[c]? = some r → (∀ w ∈ u_ws r.1 r.2.1 r.2.2, w ∈ LW) ∧ (∀ k, k < r.2.2 → parseFieldDescriptor (r.2.1 k).2.2.1 = some (tyC c k)) ∧ (∀ a, a < r.2.2 → ∀ b, b < r.2.2 → a ≠ b → (r.2.1 a).2.1 ≠ (r.2.1 b).2.1) := by
  intro c r h
  match c, h with
  | 0, h => cases h; exact ⟨lyX0, tyX0_ok, nmX0⟩
  | 1, h => cases h; exact ⟨lyX1, tyX1_ok, nmX1⟩
  | 2, h => cases h; exact ⟨lyX2, tyX2_ok, nmX2⟩
  | 3, h => cases h; exact ⟨lyX3, tyX3_ok, nmX3⟩
  | 4, h => cases h; exact ⟨lyX4, tyX4_ok, nmX4⟩
  | 5, h => cases h; exact ⟨lyX5, tyX5_ok, nmX5⟩
  | 6, h => cases h; exact ⟨lyX6, tyX6_ok, nmX6⟩
  | 7, h => cases h; exact ⟨lyX7, tyX7_ok, nmX7⟩
  | 8, h => cases h; exact ⟨lyX8, tyX8_ok, nmX8⟩
  | 9, h => cases h; exact ⟨lyX9, tyX9_ok, nmX9⟩
  | 10, h => cases h; exact ⟨lyX10, tyX10_ok, nmX10⟩
  | 11, h => cases h; exact ⟨lyX11, tyX11_ok, nmX11⟩
  | c + 12, h => simp [vwCl] at h
/-- a field as an instruction of class own names it, by its place in the pool -/
def FR (own : String) (idx c k : Nat) (ty : FieldType) : Prop := ∃ r : vw_C, vwCl[c]? = some r ∧ k < r.2.2 ∧ Cond.fieldLink own idx (r.2.1 k).1 (r.2.1 k).2.1 (r.2.1 k).2.2.1 ∈ LW ∧ tyC c k = ty
def FW (own : String) (idx c k : Nat) (ty : FieldType) : Prop := ∃ r : vw_C, vwCl[c]? = some r ∧ k < r.2.2 ∧ Cond.fieldLink own idx (r.2.1 k).1 (r.2.1 k).2.1 (r.2.1 k).2.2.1 ∈ LW ∧ tyC c k = ty ∧ (r.2.1 k).2.2.2 = false
def FF (own : String) (idx c k : Nat) (ty : FieldType) : Prop := ∃ r : vw_C, vwCl[c]? = some r ∧ k < r.2.2 ∧ Cond.fieldLink own idx (r.2.1 k).1 (r.2.1 k).2.1 (r.2.1 k).2.2.1 ∈ LW ∧ tyC c k = ty ∧ (r.2.1 k).2.2.2 = true ∧ (r.2.1 k).1 = own

section HEAP
variable {G : WG} {y : MethodName} {cc : ByteArray} {mL : Nat} {rt : Option FieldType} {rk : Nat} {Z : Nat × Nat} {Q : Post} {pc : Nat} {ls : List (Option Value)} {st : List Value} {C : CF} {I : MI} {P : MP} {L : ML}
theorem r_get {a c k idx : Nat} {ty : FieldType} (hd : decode cc pc = .ok (.getfield idx, 3)) (hF : FR y.cls idx c k ty) (hK : C.1 a = some (.inl c)) (k1 : Wd G y cc mL rt rk Z Q (pc + 3) ls (fV ty I P L a k :: st) C I P L) : Wd G y cc mL rt rk Z Q pc ls (.ref a :: st) C I P L := by
  intro p l e R s m args below meth c0 Qm sl0 H locs cells slots arr hX hH hL
  obtain ⟨r, hr, hk, hq, rfl⟩ := hF
  obtain ⟨r', hr', cell, q1, q2, q3, q4⟩ := hH.1 a _ hK
  cases hr.symm.trans hr'
  obtain ⟨hS, hfc, kC, hkC, hkind⟩ := hX.2.2.2.2.2.1.1.1 c r hr
  obtain ⟨cf, kf, fi, f, hi, hsl⟩ := hS k hk
  exact W.getf hX.1 hX.2.1 hX.2.2.2.1 (hX.2.2.2.2.1 _ hq) hi (u_facts hfc hkC (u_lays hX.2.2.2.2.1 (clOK c r hr).1 hk) hi).1 q1 (by rw [q3]; exact fun h => by cases h) (v := fV (tyC c k) I P L a k) (by rw [hsl, q4 k hk]) rfl rfl hd (k1 p l e R s m args below meth c0 Qm sl0 H locs cells slots arr hX hH hL)
theorem r_getI {a c k idx : Nat}  (hd : decode cc pc = .ok (.getfield idx, 3)) (hF : FR y.cls idx c k .int) (hK : C.1 a = some (.inl c)) (k1 : Wd G y cc mL rt rk Z Q (pc + 3) ls (.int (zI (I a k)) :: st) C I P L) : Wd G y cc mL rt rk Z Q pc ls (.ref a :: st) C I P L := r_get hd hF hK k1
theorem r_getL {a c k idx : Nat}  (hd : decode cc pc = .ok (.getfield idx, 3)) (hF : FR y.cls idx c k .long) (hK : C.1 a = some (.inl c)) (k1 : Wd G y cc mL rt rk Z Q (pc + 3) ls (.long (zL (L a k)) :: st) C I P L) : Wd G y cc mL rt rk Z Q pc ls (.ref a :: st) C I P L := r_get hd hF hK k1
theorem r_getP {a c k idx : Nat} {n : String} {b : Nat} (hd : decode cc pc = .ok (.getfield idx, 3)) (hF : FR y.cls idx c k (.object n)) (hK : C.1 a = some (.inl c)) (hP : P a k = some b) (k1 : Wd G y cc mL rt rk Z Q (pc + 3) ls (.ref b :: st) C I P L) : Wd G y cc mL rt rk Z Q pc ls (.ref a :: st) C I P L := r_get hd hF hK (by show Wd G y cc mL rt rk Z Q (pc + 3) ls (va_rf (P a k) :: st) C I P L; rw [hP]; exact k1)
theorem r_getA {a c k idx : Nat} {n : FieldType} {b : Nat} (hd : decode cc pc = .ok (.getfield idx, 3)) (hF : FR y.cls idx c k (.array n)) (hK : C.1 a = some (.inl c)) (hP : P a k = some b) (k1 : Wd G y cc mL rt rk Z Q (pc + 3) ls (.ref b :: st) C I P L) : Wd G y cc mL rt rk Z Q pc ls (.ref a :: st) C I P L := r_get hd hF hK (by show Wd G y cc mL rt rk Z Q (pc + 3) ls (va_rf (P a k) :: st) C I P L; rw [hP]; exact k1)
theorem ch_put {s : State} {sl0 : Nat × (Nat → Option Kd)} {I' : MI} {P' : MP} {L' : ML} {H H' : Heap} {locs : List Loc} {cells slots a c k i : Nat} {r : vw_C} {cell : Cell} {v : Value} (hH : Ch G s sl0 Z C I P L H locs cells slots) (hB : gB G ≤ a) (hK : C.1 a = some (.inl c)) (hr : vwCl[c]? = some r) (hk : k < r.2.2)
    (q1 : H[a]? = some cell) (q2 : cell.cls = (gD G).1 c) (q3 : cell.vm = .none) (q4 : ∀ j, j < r.2.2 → cell.slots[(gD G).2 c j]? = some (fV (tyC c j) I P L a j)) (hap : ∀ x z, x < r.2.2 → z < r.2.2 → x ≠ z → (gD G).2 c x ≠ (gD G).2 c z)
    (hv : fV (tyC c k) I' P' L' a k = v) (hs : ∀ b j, ¬ (b = a ∧ j = k) → I' b j = I b j ∧ P' b j = P b j ∧ L' b j = L b j)
    (e1 : H'[a]? = some (cell.setSlot ((gD G).2 c k) v)) (e2 : H'.size = H.size) (e3 : ∀ q, q ≠ a → H'[q]? = H[q]?) : Ch G s sl0 Z C I' P' L' H' (locs ++ [⟨a, i⟩]) cells slots := by
  obtain ⟨g1, g2, g3, g4, g5, g6, g7, g8⟩ := hH
  refine ⟨fun b kd hb => ?_, e2.trans g2, g3.put e2 e3 hB, g4, g5, g6, g7, g8.put hK e3⟩
  by_cases hba : b = a
  · subst hba
    cases hK.symm.trans hb
    refine ⟨r, hr, _, e1, q2, q3, fun j hj => ?_⟩
    rw [t_set q4 hap hk v j hj]
    unfold updV
    by_cases hjk : j = k
    · subst hjk; rw [if_pos rfl]; exact congrArg some hv.symm
    · rw [if_neg hjk]
      have h := hs b j (fun q => hjk q.2)
      exact congrArg some (fV_row h.1 h.2.1 h.2.2).symm
  · exact (g1 b kd hb).kept (e3 b hba) (fun j => (hs b j (fun q => hba q.1)).1) (fun j => (hs b j (fun q => hba q.1)).2.1) (fun j => (hs b j (fun q => hba q.1)).2.2)
theorem r_put {a c k idx : Nat} {ty : FieldType} {v : Value} {I' : MI} {P' : MP} {L' : ML} (hd : decode cc pc = .ok (.putfield idx, 3)) (hF : FW y.cls idx c k ty) (hK : C.1 a = some (.inl c)) (hB : gB G ≤ a) (hn : narrow ty v = v) (hf : fits ty v = true) (hv : fV ty I' P' L' a k = v) (hs : ∀ b j, ¬ (b = a ∧ j = k) → I' b j = I b j ∧ P' b j = P b j ∧ L' b j = L b j) (k1 : Wd G y cc mL rt rk Z Q (pc + 3) ls st C I' P' L') : Wd G y cc mL rt rk Z Q pc ls (v :: .ref a :: st) C I P L := by
  intro p l e R s m args below meth c0 Qm sl0 H locs cells slots arr hX hH hL
  obtain ⟨r, hr, hk, hq, rfl, hfin⟩ := hF
  obtain ⟨r', hr', cell, q1, q2, q3, q4⟩ := hH.1 a _ hK
  cases hr.symm.trans hr'
  obtain ⟨o1, o2, o3⟩ := clOK c r hr
  have hts := hX.2.2.2.2.1
  have hap := va_apart (own := y.cls) hts o1 (tyC c) o2 o3 hX.2.2.2.2.2.1.1 hr
  obtain ⟨hS, hfc, kC, hkC, hkind⟩ := hX.2.2.2.2.2.1.1.1 c r hr
  obtain ⟨cf, kf, fi, f, hi, hsl⟩ := hS k hk
  have hlay := hts _ (o1 _ (u_in_lay hk))
  unfold u_lay at hlay
  rw [if_neg (by rw [hfin]; decide)] at hlay
  have h6 := u_store hfc hkC hkind hlay hi (o2 k hk) hn hf
  refine W.putK hX.1 hX.2.1 (f := f) ⟨hX.2.2.2.1, hts _ hq, ⟨_, _, _, hi⟩, (u_facts hfc hkC (u_lays hts o1 hk) hi).1⟩ (by rw [q2]; exact h6) q1 q3 (by rw [hsl]; exact k2_hasslot (q4 k hk)) rfl rfl hd fun H' e1 e2 e3 => ?_
  rw [hsl] at e1
  exact k1 p l e R s m args below meth c0 Qm sl0 H' _ cells slots arr hX (ch_put hH hB hK hr hk q1 q2 q3 q4 hap hv hs e1 e2 e3) hL
theorem r_putFin {a c k idx : Nat} {ty : FieldType} {v : Value} {I' : MI} {P' : MP} {L' : ML} (hy : y.name = "<init>") (hd : decode cc pc = .ok (.putfield idx, 3)) (hF : FF y.cls idx c k ty) (hK : C.1 a = some (.inl c)) (hB : gB G ≤ a) (hn : narrow ty v = v) (hf : fits ty v = true) (hv : fV ty I' P' L' a k = v) (hs : ∀ b j, ¬ (b = a ∧ j = k) → I' b j = I b j ∧ P' b j = P b j ∧ L' b j = L b j) (k1 : Wd G y cc mL rt rk Z Q (pc + 3) ls st C I' P' L') : Wd G y cc mL rt rk Z Q pc ls (v :: .ref a :: st) C I P L := by
  intro p l e R s m args below meth c0 Qm sl0 H locs cells slots arr hX hH hL
  obtain ⟨r, hr, hk, hq, rfl, hfin, hdecl⟩ := hF
  obtain ⟨r', hr', cell, q1, q2, q3, q4⟩ := hH.1 a _ hK
  cases hr.symm.trans hr'
  obtain ⟨o1, o2, o3⟩ := clOK c r hr
  have hts := hX.2.2.2.2.1
  have hap := va_apart (own := y.cls) hts o1 (tyC c) o2 o3 hX.2.2.2.2.2.1.1 hr
  obtain ⟨hS, hfc, kC, hkC, hkind⟩ := hX.2.2.2.2.2.1.1.1 c r hr
  obtain ⟨cf, kf, fi, f, hi, hsl⟩ := hS k hk
  have hlay := hts _ (o1 _ (u_in_lay hk))
  unfold u_lay at hlay
  rw [if_pos hfin] at hlay
  have hcf : m.cls = cf := by
    obtain ⟨_, _, c', _, _, _, -, -, hf', -, -, -, hown2, -⟩ := Cond.laysFinal_spec hlay
    have e1 : c' = cf := by have := hi.symm.trans hf'; simp at this; exact this.1.symm
    rw [hdecl] at hown2
    rw [← e1]; exact Option.some.inj (hX.2.2.2.1.symm.trans hown2)
  have h6 := u_fits hfc hkC hkind (Or.inr hlay) hi (o2 k hk) hn hf
  refine W.putFinK hX.1 hX.2.1 hX.2.2.2.1 (hts _ hq) hi (u_facts hfc hkC (u_lays hts o1 hk) hi).1 hcf (hX.2.2.2.2.2.2.2.2.2.2.2.1.trans hy) (by rw [q2]; exact h6) q1 q3 (by rw [hsl]; exact k2_hasslot (q4 k hk)) rfl rfl hd fun H' e1 e2 e3 => ?_
  rw [hsl] at e1
  exact k1 p l e R s m args below meth c0 Qm sl0 H' _ cells slots arr hX (ch_put hH hB hK hr hk q1 q2 q3 q4 hap hv hs e1 e2 e3) hL
theorem r_putI {a c k idx : Nat} {x : Int} (hd : decode cc pc = .ok (.putfield idx, 3)) (hF : FW y.cls idx c k .int) (hK : C.1 a = some (.inl c)) (hB : gB G ≤ a) (k1 : Wd G y cc mL rt rk Z Q (pc + 3) ls st C (u2 I a k x) P L) : Wd G y cc mL rt rk Z Q pc ls (.int (zI x) :: .ref a :: st) C I P L := r_put hd hF hK hB rfl rfl (by show Value.int (zI (u2 I a k x a k)) = _; rw [u2_s]) (fun b j h => ⟨by unfold u2; rw [if_neg h], rfl, rfl⟩) k1
theorem r_putL {a c k idx : Nat} {x : Int} (hd : decode cc pc = .ok (.putfield idx, 3)) (hF : FW y.cls idx c k .long) (hK : C.1 a = some (.inl c)) (hB : gB G ≤ a) (k1 : Wd G y cc mL rt rk Z Q (pc + 3) ls st C I P (u2 L a k x)) : Wd G y cc mL rt rk Z Q pc ls (.long (zL x) :: .ref a :: st) C I P L := r_put hd hF hK hB rfl rfl (by show Value.long (zL (u2 L a k x a k)) = _; rw [u2_s]) (fun b j h => ⟨rfl, rfl, by unfold u2; rw [if_neg h]⟩) k1
theorem r_putP {a c k idx x : Nat} {n : String} (hd : decode cc pc = .ok (.putfield idx, 3)) (hF : FW y.cls idx c k (.object n)) (hK : C.1 a = some (.inl c)) (hB : gB G ≤ a) (k1 : Wd G y cc mL rt rk Z Q (pc + 3) ls st C I (u2 P a k (some x)) L) : Wd G y cc mL rt rk Z Q pc ls (.ref x :: .ref a :: st) C I P L := r_put hd hF hK hB rfl rfl (by show va_rf (u2 P a k (some x) a k) = _; rw [u2_s]; rfl) (fun b j h => ⟨rfl, by unfold u2; rw [if_neg h], rfl⟩) k1
theorem r_putA {a c k idx x : Nat} {n : FieldType} (hd : decode cc pc = .ok (.putfield idx, 3)) (hF : FW y.cls idx c k (.array n)) (hK : C.1 a = some (.inl c)) (hB : gB G ≤ a) (k1 : Wd G y cc mL rt rk Z Q (pc + 3) ls st C I (u2 P a k (some x)) L) : Wd G y cc mL rt rk Z Q pc ls (.ref x :: .ref a :: st) C I P L := r_put hd hF hK hB rfl rfl (by show va_rf (u2 P a k (some x) a k) = _; rw [u2_s]; rfl) (fun b j h => ⟨rfl, by unfold u2; rw [if_neg h], rfl⟩) k1
theorem r_finI {a c k idx : Nat} {x : Int} (hy : y.name = "<init>") (hd : decode cc pc = .ok (.putfield idx, 3)) (hF : FF y.cls idx c k .int) (hK : C.1 a = some (.inl c)) (hB : gB G ≤ a) (k1 : Wd G y cc mL rt rk Z Q (pc + 3) ls st C (u2 I a k x) P L) : Wd G y cc mL rt rk Z Q pc ls (.int (zI x) :: .ref a :: st) C I P L := r_putFin hy hd hF hK hB rfl rfl (by show Value.int (zI (u2 I a k x a k)) = _; rw [u2_s]) (fun b j h => ⟨by unfold u2; rw [if_neg h], rfl, rfl⟩) k1
theorem r_finL {a c k idx : Nat} {x : Int} (hy : y.name = "<init>") (hd : decode cc pc = .ok (.putfield idx, 3)) (hF : FF y.cls idx c k .long) (hK : C.1 a = some (.inl c)) (hB : gB G ≤ a) (k1 : Wd G y cc mL rt rk Z Q (pc + 3) ls st C I P (u2 L a k x)) : Wd G y cc mL rt rk Z Q pc ls (.long (zL x) :: .ref a :: st) C I P L := r_putFin hy hd hF hK hB rfl rfl (by show Value.long (zL (u2 L a k x a k)) = _; rw [u2_s]) (fun b j h => ⟨rfl, rfl, by unfold u2; rw [if_neg h]⟩) k1
theorem r_finP {a c k idx x : Nat} {n : String} (hy : y.name = "<init>") (hd : decode cc pc = .ok (.putfield idx, 3)) (hF : FF y.cls idx c k (.object n)) (hK : C.1 a = some (.inl c)) (hB : gB G ≤ a) (k1 : Wd G y cc mL rt rk Z Q (pc + 3) ls st C I (u2 P a k (some x)) L) : Wd G y cc mL rt rk Z Q pc ls (.ref x :: .ref a :: st) C I P L := r_putFin hy hd hF hK hB rfl rfl (by show va_rf (u2 P a k (some x) a k) = _; rw [u2_s]; rfl) (fun b j h => ⟨rfl, by unfold u2; rw [if_neg h], rfl⟩) k1
theorem r_finA {a c k idx x : Nat} {n : FieldType} (hy : y.name = "<init>") (hd : decode cc pc = .ok (.putfield idx, 3)) (hF : FF y.cls idx c k (.array n)) (hK : C.1 a = some (.inl c)) (hB : gB G ≤ a) (k1 : Wd G y cc mL rt rk Z Q (pc + 3) ls st C I (u2 P a k (some x)) L) : Wd G y cc mL rt rk Z Q pc ls (.ref x :: .ref a :: st) C I P L := r_putFin hy hd hF hK hB rfl rfl (by show va_rf (u2 P a k (some x) a k) = _; rw [u2_s]; rfl) (fun b j h => ⟨rfl, by unfold u2; rw [if_neg h], rfl⟩) k1
theorem ix_in {x : Int} {j n N : Nat} (hx : x = (j : Int)) (hj : j < n) (hn : n ≤ N) (h31 : n ≤ 1000000) : ¬ (zI x < 0 ∨ N ≤ (zI x).toNatClampNeg) ∧ (zI x).toNatClampNeg = j := by
  subst hx
  have h : iR (j : Int) := ⟨by omega, by omega⟩
  rw [zI_clamp h]
  exact ⟨fun q => q.elim (zI_nneg h) (by omega), rfl⟩
theorem r_iald {a n j : Nat} {x : Int} (hd : decode cc pc = .ok (.iaload, 1)) (hK : C.1 a = some (.inr (0, n))) (hx : x = (j : Int)) (hj : j < n) (h31 : n ≤ 1000000) (k1 : Wd G y cc mL rt rk Z Q (pc + 1) ls (.int (zI (I a j)) :: st) C I P L) : Wd G y cc mL rt rk Z Q pc ls (.int (zI x) :: .ref a :: st) C I P L := by
  intro p l e R s m args below meth c0 Qm sl0 H locs cells slots arr hX hH hL
  obtain ⟨cell, e1, e2, e3, e4, e5, e6, e7⟩ := hH.1 a _ hK
  obtain ⟨hin, hc⟩ := ix_in hx hj e4 h31
  exact W.iald (v := .int (zI (I a j))) hX.1 hX.2.1 e1 e2 e3 hin (by rw [hc]; exact e6 j hj) rfl rfl hd (k1 p l e R s m args below meth c0 Qm sl0 H locs cells slots arr hX hH hL)
theorem r_aald {a n j t b : Nat} {x : Int} (hd : decode cc pc = .ok (.aaload, 1)) (hK : C.1 a = some (.inr (t, n))) (ht : t = 2 ∨ t = 3 ∨ t = 4) (hx : x = (j : Int)) (hj : j < n) (h31 : n ≤ 1000000) (hP : P a j = some b) (k1 : Wd G y cc mL rt rk Z Q (pc + 1) ls (.ref b :: st) C I P L) : Wd G y cc mL rt rk Z Q pc ls (.int (zI x) :: .ref a :: st) C I P L := by
  intro p l e R s m args below meth c0 Qm sl0 H locs cells slots arr hX hH hL
  obtain ⟨cell, e1, e2, e3, e4, e5, e6, e7⟩ := hH.1 a _ hK
  obtain ⟨hin, hc⟩ := ix_in hx hj e4 h31
  have e8 := e6 j hj
  refine W.aald (v := .ref b) hX.1 hX.2.1 e1 e2 (by rcases ht with rfl | rfl | rfl <;> rfl) e3 hin ?_ rfl rfl hd (k1 p l e R s m args below meth c0 Qm sl0 H locs cells slots arr hX hH hL)
  rw [hc, e8]
  rcases ht with rfl | rfl | rfl <;> (show some (va_rf (P a j)) = _; rw [hP]; rfl)
theorem r_alen {a n t : Nat} (hd : decode cc pc = .ok (.arraylength, 1)) (hK : C.1 a = some (.inr (t, n))) (k1 : Wd G y cc mL rt rk Z Q (pc + 1) ls (.int (zI (n : Int)) :: st) C I P L) : Wd G y cc mL rt rk Z Q pc ls (.ref a :: st) C I P L := by
  intro p l e R s m args below meth c0 Qm sl0 H locs cells slots arr hX hH hL
  obtain ⟨cell, e1, e2, e3, e4, e5, e6, e7⟩ := hH.1 a _ hK
  have k2 := k1 p l e R s m args below meth c0 Qm sl0 H locs cells slots arr hX hH hL
  rw [zI_nat] at k2
  exact W.alen hX.1 hX.2.1 e1 e2 e5 rfl rfl hd k2
theorem ch_ast {s : State} {sl0 : Nat × (Nat → Option Kd)} {I' : MI} {P' : MP} {H H' : Heap} {locs : List Loc} {cells slots a j t n i : Nat} {cell : Cell} {v : Value} (hH : Ch G s sl0 Z C I P L H locs cells slots) (hB : gB G ≤ a) (hK : C.1 a = some (.inr (t, n))) (hj : j < n)
    (e1 : H[a]? = some cell) (e2 : s.isArrayOf cell (aty t)) (e3 : cell.vm ≠ .unknown) (e4 : n ≤ cell.slots.size) (e5 : cell.slots.size.toInt32 = Int32.ofNat n) (e6 : ∀ j, j < n → cell.slots[j]? = some (fV (aty t) I P L a j)) (e7 : gB G ≤ a → cell.cls = gC G t)
    (hv : fV (aty t) I' P' L a j = v) (hs : ∀ b k, ¬ (b = a ∧ k = j) → I' b k = I b k ∧ P' b k = P b k)
    (f1 : H'[a]? = some (cell.setSlot j v)) (f2 : H'.size = H.size) (f3 : ∀ q, q ≠ a → H'[q]? = H[q]?) : Ch G s sl0 Z C I' P' L H' (locs ++ [⟨a, i⟩]) cells slots := by
  obtain ⟨g1, g2, g3, g4, g5, g6, g7, g8⟩ := hH
  refine ⟨fun b kd hb => ?_, f2.trans g2, g3.put f2 f3 hB, g4, g5, g6, g7, g8.put hK f3⟩
  by_cases hba : b = a
  · subst hba
    cases hK.symm.trans hb
    refine ⟨_, f1, e2, e3, by rw [k2_slotsz]; exact e4, by rw [k2_slotsz]; exact e5, fun k hk => ?_, e7⟩
    by_cases hkj : k = j
    · subst hkj
      rw [Cell.slots_setSlot_self _ (by have : k < n := hj; omega)]
      exact congrArg some hv.symm
    · rw [slot_ne _ _ (Ne.symm hkj)]
      have h := hs b k (fun q => hkj q.2)
      rw [e6 k hk]
      exact congrArg some (fV_row h.1 h.2 rfl).symm
  · exact (g1 b kd hb).kept (f3 b hba) (fun k => (hs b k (fun q => hba q.1)).1) (fun k => (hs b k (fun q => hba q.1)).2) (fun _ => rfl)
theorem r_iast {a n j : Nat} {x z : Int} (hd : decode cc pc = .ok (.iastore, 1)) (hK : C.1 a = some (.inr (0, n))) (hB : gB G ≤ a) (hx : x = (j : Int)) (hj : j < n) (h31 : n ≤ 1000000) (k1 : Wd G y cc mL rt rk Z Q (pc + 1) ls st C (u2 I a j z) P L) : Wd G y cc mL rt rk Z Q pc ls (.int (zI z) :: .int (zI x) :: .ref a :: st) C I P L := by
  intro p l e R s m args below meth c0 Qm sl0 H locs cells slots arr hX hH hL
  obtain ⟨cell, e1, e2, e3, e4, e5, e6, e7⟩ := hH.1 a _ hK
  obtain ⟨hin, hc⟩ := ix_in hx hj e4 h31
  refine W.iast hX.1 hX.2.1 e1 e2 e3 hin rfl rfl hd fun H' f1 f2 f3 => ?_
  rw [hc] at f1
  exact k1 p l e R s m args below meth c0 Qm sl0 H' _ cells slots arr hX (ch_ast hH hB hK hj e1 e2 e3 e4 e5 e6 e7 (by show Value.int (zI (u2 I a j z a j)) = _; rw [u2_s]) (fun b k h => ⟨by unfold u2; rw [if_neg h], rfl⟩) f1 f2 f3) hL
end HEAP

