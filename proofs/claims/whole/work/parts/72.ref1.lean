/-! the reference: its rows -/
def uR (I : MI) (x : Nat) (R : Nat → Int) : MI := fun y => if y = x then R else I y
theorem uR_app (I : MI) (x : Nat) (R : Nat → Int) (y : Nat) : uR I x R y = if y = x then R else I y := rfl
theorem uR_s (I : MI) (x : Nat) (R : Nat → Int) : uR I x R x = R := by unfold uR; rw [if_pos rfl]
theorem uR_n (I : MI) {x y : Nat} (R : Nat → Int) (h : y ≠ x) : uR I x R y = I y := by unfold uR; rw [if_neg h]
theorem uR_uR (I : MI) (x : Nat) (A B : Nat → Int) : uR (uR I x A) x B = uR I x B := by funext y; unfold uR; split <;> rfl
theorem uR_same (I : MI) (x : Nat) : uR I x (I x) = I := by funext y; unfold uR; split <;> simp_all
theorem u2_I (I : MI) (x k : Nat) (v : Int) : u2 I x k v = uR I x (up (I x) k v) := by
  funext y j
  simp only [u2_app, uR_app]
  by_cases h : y = x
  · subst h
    rw [if_pos rfl, up_app]
    by_cases hj : j = k
    · rw [if_pos ⟨rfl, hj⟩, if_pos hj]
    · rw [if_neg (fun q => hj q.2), if_neg hj]
  · rw [if_neg (fun q => h q.1), if_neg h]
theorem uR_comm (I : MI) {x y : Nat} (A B : Nat → Int) (h : x ≠ y) : uR (uR I x A) y B = uR (uR I y B) x A := by
  funext z
  simp only [uR_app]
  by_cases h1 : z = y
  · rw [if_pos h1, if_neg (show ¬ z = x by omega), if_pos h1]
  · rw [if_neg h1, if_neg h1]
def RfL (G : WG) (C : CF) (P : MP) (m : Nat) : Prop := gB G ≤ m ∧ C.1 m = some (.inl 12) ∧ C.1 (m + 1) = some (.inr (0, 236)) ∧ C.1 (m + 2) = some (.inr (0, 472)) ∧ C.1 (m + 3) = some (.inr (1, 2)) ∧ C.1 (m + 4) = some (.inr (0, 3)) ∧ C.1 (m + 5) = some (.inr (0, 33)) ∧ C.1 (m + 6) = some (.inr (0, 64)) ∧ C.1 (m + 7) = some (.inr (0, 6)) ∧ C.1 (m + 8) = some (.inr (0, 6)) ∧ C.1 (m + 9) = some (.inr (0, 150)) ∧ C.1 (m + 10) = some (.inr (0, 116)) ∧ C.1 (m + 11) = some (.inr (0, 3)) ∧ P m 0 = some (m + 1) ∧ P m 1 = some (m + 2) ∧ P m 2 = some (m + 3) ∧ P m 3 = some (m + 4) ∧ P m 6 = some (m + 5) ∧ P m 7 = some (m + 6) ∧ P m 8 = some (m + 7) ∧ P m 9 = some (m + 8) ∧ P m 10 = some (m + 9) ∧ P m 16 = some (m + 10) ∧ P m 17 = some (m + 11)
section REF1
variable {G : WG} {C : CF} {I : MI} {P : MP} {L : ML} {m : Nat} {R : Nat → Int} {Y : Int}
theorem sX12_in {v a b : Int} (hv : lR v := by omega) (ha : lR a := by omega) (hb : lR b := by omega) : SX12_in G [.long (zL v), .long (zL a), .long (zL b)] C I P L (NI C (XI (if a ≤ v ∧ v ≤ b then 1 else 0) I P L)) := by
  refine en_I (by decide +kernel) (Nat.le_of_ble_eq_true rfl) ?_
  change Wd _ _ _ _ _ _ _ _ 0 [some _, none, some _, none, some _, none] [] _ _ _ _
  refine r_lload_n (pc := 0) dX12_in_0 rfl ?_
  refine r_lload_n (pc := 1) dX12_in_1 rfl ?_
  refine r_lcmp_lt (pc := 2) 17 dX12_in_2 dX12_in_3 (by decide) (by omega) (by omega) (fun h2 => ?_) (fun h2 => ?_)
  · skip
    refine r_iconst (pc := 17) dX12_in_17 ?_
    refine t_iret (pc := 18) dX12_in_18 rfl rfl ?_
    exact ⟨by first | rw [if_pos (by omega)] | rw [if_neg (by omega)], rfl, rfl, rfl⟩
  · skip
    refine r_lload_n (pc := 6) dX12_in_6 rfl ?_
    refine r_lload (pc := 7) dX12_in_7 rfl ?_
    refine r_lcmp_gt (pc := 9) 17 dX12_in_9 dX12_in_10 (by decide) (by omega) (by omega) (fun h9 => ?_) (fun h9 => ?_)
    · skip
      refine r_iconst (pc := 17) dX12_in_17 ?_
      refine t_iret (pc := 18) dX12_in_18 rfl rfl ?_
      exact ⟨by first | rw [if_pos (by omega)] | rw [if_neg (by omega)], rfl, rfl, rfl⟩
    · skip
      refine r_iconst (pc := 13) dX12_in_13 ?_
      refine r_goto (pc := 14) 18 dX12_in_14 (by decide) ?_
      refine t_iret (pc := 18) dX12_in_18 rfl rfl ?_
      exact ⟨by first | rw [if_pos (by omega)] | rw [if_neg (by omega)], rfl, rfl, rfl⟩
theorem sX12_bad {v : Int} (hm : RfL G C P m := by assumption) : SX12_bad G [.ref m, .int (zI v)] C I P L (NI C (XI v (uR I (m + 4) (up (I (m + 4)) 0 (I (m + 4) 0 + 1))) P L)) := by
  obtain ⟨hBm, hKm, hK1, hK2, hK3, hK4, hK5, hK6, hK7, hK8, hK9, hK10, hK11, hP0, hP1, hP2, hP3, hP6, hP7, hP8, hP9, hP10, hP16, hP17⟩ := id hm
  refine en_I (by decide +kernel) (Nat.le_of_ble_eq_true rfl) ?_
  change Wd _ _ _ _ _ _ _ _ 0 [some _, some _] [] _ _ _ _
  refine r_aload_n (pc := 0) dX12_bad_0 rfl ?_
  refine r_getA (pc := 1) dX12_bad_1 frX12_20 (by assumption) (by assumption) ?_
  refine r_iconst (pc := 4) dX12_bad_4 ?_
  refine r_dup2 (pc := 5) dX12_bad_5 rfl rfl ?_
  refine r_iald (j := 0) (pc := 6) dX12_bad_6 (by assumption) rfl (by omega) (by omega) ?_
  refine r_iconst (pc := 7) dX12_bad_7 ?_
  refine r_iadd (pc := 8) dX12_bad_8 ?_
  refine r_iast (j := 0) (pc := 9) dX12_bad_9 (by assumption) (by omega) rfl (by omega) (by omega) ?_
  try simp only [u2_I, uR_uR, uR_app, eq_self, Nat.reduceEqDiff, Nat.add_eq_left, Nat.left_eq_add, ↓reduceIte]
  refine r_iload_n (pc := 10) dX12_bad_10 rfl ?_
  refine t_iret (pc := 11) dX12_bad_11 rfl rfl ?_
  exact ⟨rfl, rfl, rfl, rfl⟩
theorem sX12_no (hm : RfL G C P m := by assumption) : SX12_no G [.ref m] C I P L (NI C (XI (-3) (uR I (m + 4) (up (I (m + 4)) 1 (I (m + 4) 1 + 1))) P L)) := by
  obtain ⟨hBm, hKm, hK1, hK2, hK3, hK4, hK5, hK6, hK7, hK8, hK9, hK10, hK11, hP0, hP1, hP2, hP3, hP6, hP7, hP8, hP9, hP10, hP16, hP17⟩ := id hm
  refine en_I (by decide +kernel) (Nat.le_of_ble_eq_true rfl) ?_
  change Wd _ _ _ _ _ _ _ _ 0 [some _] [] _ _ _ _
  refine r_aload_n (pc := 0) dX12_no_0 rfl ?_
  refine r_getA (pc := 1) dX12_no_1 frX12_20 (by assumption) (by assumption) ?_
  refine r_iconst (pc := 4) dX12_no_4 ?_
  refine r_dup2 (pc := 5) dX12_no_5 rfl rfl ?_
  refine r_iald (j := 1) (pc := 6) dX12_no_6 (by assumption) rfl (by omega) (by omega) ?_
  refine r_iconst (pc := 7) dX12_no_7 ?_
  refine r_iadd (pc := 8) dX12_no_8 ?_
  refine r_iast (j := 1) (pc := 9) dX12_no_9 (by assumption) (by omega) rfl (by omega) (by omega) ?_
  try simp only [u2_I, uR_uR, uR_app, eq_self, Nat.reduceEqDiff, Nat.add_eq_left, Nat.left_eq_add, ↓reduceIte]
  refine r_bipush (pc := 10) dX12_no_10 (by decide) ?_
  refine t_iret (pc := 12) dX12_no_12 rfl rfl ?_
  exact ⟨rfl, rfl, rfl, rfl⟩
theorem sX12_full (hm : RfL G C P m := by assumption) : SX12_full G [.ref m] C I P L (NI C (XI (-4) (uR I (m + 4) (up (I (m + 4)) 2 (I (m + 4) 2 + 1))) P L)) := by
  obtain ⟨hBm, hKm, hK1, hK2, hK3, hK4, hK5, hK6, hK7, hK8, hK9, hK10, hK11, hP0, hP1, hP2, hP3, hP6, hP7, hP8, hP9, hP10, hP16, hP17⟩ := id hm
  refine en_I (by decide +kernel) (Nat.le_of_ble_eq_true rfl) ?_
  change Wd _ _ _ _ _ _ _ _ 0 [some _] [] _ _ _ _
  refine r_aload_n (pc := 0) dX12_full_0 rfl ?_
  refine r_getA (pc := 1) dX12_full_1 frX12_20 (by assumption) (by assumption) ?_
  refine r_iconst (pc := 4) dX12_full_4 ?_
  refine r_dup2 (pc := 5) dX12_full_5 rfl rfl ?_
  refine r_iald (j := 2) (pc := 6) dX12_full_6 (by assumption) rfl (by omega) (by omega) ?_
  refine r_iconst (pc := 7) dX12_full_7 ?_
  refine r_iadd (pc := 8) dX12_full_8 ?_
  refine r_iast (j := 2) (pc := 9) dX12_full_9 (by assumption) (by omega) rfl (by omega) (by omega) ?_
  try simp only [u2_I, uR_uR, uR_app, eq_self, Nat.reduceEqDiff, Nat.add_eq_left, Nat.left_eq_add, ↓reduceIte]
  refine r_bipush (pc := 10) dX12_full_10 (by decide) ?_
  refine t_iret (pc := 12) dX12_full_12 rfl rfl ?_
  exact ⟨rfl, rfl, rfl, rfl⟩
def popW : Nat → Nat → Nat
  | 0, _ => 0
  | k + 1, s => s % 2 + popW k (s / 2)
theorem popW_0 : ∀ k, popW k 0 = 0 := by
  intro k
  induction k with
  | zero => rfl
  | succ k ih => unfold popW; rw [show 0 / 2 = 0 by rfl, ih]
theorem popW_le : ∀ k s, popW k s ≤ k := by
  intro k
  induction k with
  | zero => intro s; exact Nat.le_refl 0
  | succ k ih => intro s; have := ih (s / 2); unfold popW; omega
theorem sX12_bits {x : Int} {s : Nat} (hx : x = (s : Int) := by first | rfl | omega) (hs : s < 2 ^ 30 := by omega) : SX12_bits G [.int (zI x)] C I P L (NI C (XI (popW 30 s : Int) I P L)) := by
  refine en_I (by decide +kernel) (Nat.le_of_ble_eq_true rfl) ?_
  change Wd _ _ _ _ _ _ _ _ 0 [some _, none, none] [] _ _ _ _
  have loop : ∀ (d w : Nat) (i k : Int), w < 2 ^ d → d ≤ 30 → i = (w : Int) → k + popW d w = popW 30 s → Wd G yX12_bits cX12_bits 3 (some .int) 0 (C.2.1 + 0, C.2.2 + 0) (NI C (XI (popW 30 s : Int) I P L)) 4 [some (.int (zI x)), some (.int (zI k)), some (.int (zI i))] [] C I P L := by
    intro d
    induction d with
    | zero =>
      intro w i k hw hd hi hk
      have h0 : w = 0 := by omega
      rw [h0, popW_0] at hk
      refine r_iload_n (pc := 4) dX12_bits_4 rfl ?_
      refine r_if_le (pc := 5) 21 dX12_bits_5 (by decide) (by omega) (fun h5 => ?_) (fun h5 => ?_)
      · skip
        refine r_iload_n (pc := 21) dX12_bits_21 rfl ?_
        refine t_iret (pc := 22) dX12_bits_22 rfl rfl ?_
        exact ⟨by omega, rfl, rfl, rfl⟩
      · exfalso; omega
    | succ d ih =>
      intro w i k hw hd hi hk
      have hp : 2 ^ (d + 1) ≤ 2 ^ 30 := Nat.pow_le_pow_right (by decide) hd
      have hww : w < 2147483648 := by omega
      have e2 : b_shr i 1 = ((w / 2 : Nat) : Int) := by
        rw [hi]; have := b_shrN (a := w) (k := 1) hww (by decide); simpa using this
      have e1 : b_and i 1 = ((w % 2 : Nat) : Int) := by
        rw [hi]
        have := b_andN (a := w) (b := 1) hww
        rw [Nat.and_one_is_mod] at this
        exact this
      by_cases h0 : w = 0
      · rw [h0, popW_0] at hk
        refine r_iload_n (pc := 4) dX12_bits_4 rfl ?_
        refine r_if_le (pc := 5) 21 dX12_bits_5 (by decide) (by omega) (fun h5 => ?_) (fun h5 => ?_)
        · skip
          refine r_iload_n (pc := 21) dX12_bits_21 rfl ?_
          refine t_iret (pc := 22) dX12_bits_22 rfl rfl ?_
          exact ⟨by omega, rfl, rfl, rfl⟩
        · exfalso; omega
      · skip
        refine r_iload_n (pc := 4) dX12_bits_4 rfl ?_
        refine r_if_le (pc := 5) 21 dX12_bits_5 (by decide) (by omega) (fun h5 => ?_) (fun h5 => ?_)
        · exfalso; omega
        · skip
          refine r_iload_n (pc := 8) dX12_bits_8 rfl ?_
          refine r_iload_n (pc := 9) dX12_bits_9 rfl ?_
          refine r_iconst (pc := 10) dX12_bits_10 ?_
          refine r_iand (pc := 11) dX12_bits_11 ?_
          rw [e1]
          refine r_iadd (pc := 12) dX12_bits_12 ?_
          refine r_istore_n (pc := 13) dX12_bits_13 (by decide) ?_
          refine r_iload_n (pc := 14) dX12_bits_14 rfl ?_
          refine r_iconst (pc := 15) dX12_bits_15 ?_
          refine r_ishr (pc := 16) dX12_bits_16 ?_
          rw [e2]
          refine r_istore_n (pc := 17) dX12_bits_17 (by decide) ?_
          refine r_goto (pc := 18) 4 dX12_bits_18 (by decide) ?_
          refine ih (w / 2) _ _ (by rw [Nat.pow_succ] at hw; omega) (by omega) rfl ?_
          rw [popW] at hk; omega
  refine r_iconst (pc := 0) dX12_bits_0 ?_
  refine r_istore_n (pc := 1) dX12_bits_1 (by decide) ?_
  refine r_iload_n (pc := 2) dX12_bits_2 rfl ?_
  refine r_istore_n (pc := 3) dX12_bits_3 (by decide) ?_
  exact loop 30 s _ _ hs (by decide) hx (by omega)
def begR (R : Nat → Int) (y : Int) : Nat → Int := fun k => if k = 0 then y else if k < 116 then 0 else R k
theorem sX12_begin {a n : Nat} {y : Int} (hK : C.1 a = some (.inr (0, n)) := by assumption) (hB : gB G ≤ a := by omega) (hn : 116 ≤ n ∧ n ≤ 236 := by omega) : SX12_begin G [.ref a, .int (zI y)] C I P L (NV C (XV (uR I a (begR (I a) y)) P L)) := by
  refine en_V (by decide +kernel) (Nat.le_of_ble_eq_true rfl) ?_
  change Wd _ _ _ _ _ _ _ _ 0 [some _, some _, none] [] _ _ _ _
  have loop : ∀ (d f : Nat) (i : Int) (J : MI), f + d = 116 → i = (f : Int) → J = uR I a (fun k => if k < f then 0 else I a k) → Wd G yX12_begin cX12_begin 3 none 0 (C.2.1 + 0, C.2.2 + 0) (NV C (XV (uR I a (begR (I a) y)) P L)) 2 [some (.ref a), some (.int (zI y)), some (.int (zI i))] [] C J P L := by
    intro d
    induction d with
    | zero =>
      intro f i J hd hi hJ
      subst hJ
      refine r_iload_n (pc := 2) dX12_begin_2 rfl ?_
      refine r_bipush (pc := 3) dX12_begin_3 (by decide) ?_
      refine r_icmp_ge (pc := 5) 18 dX12_begin_5 (by decide) (by omega) (by omega) (fun h5 => ?_) (fun h5 => ?_)
      · skip
        refine r_aload_n (pc := 18) dX12_begin_18 rfl ?_
        refine r_iconst (pc := 19) dX12_begin_19 ?_
        refine r_iload_n (pc := 20) dX12_begin_20 rfl ?_
        refine r_iast (j := 0) (pc := 21) dX12_begin_21 (by assumption) (by omega) rfl (by omega) (by omega) ?_
        try simp only [u2_I, uR_uR, uR_app, eq_self, Nat.reduceEqDiff, Nat.add_eq_left, Nat.left_eq_add, ↓reduceIte]
        refine t_vret (pc := 22) dX12_begin_22 rfl ?_
        refine ⟨?_, rfl, rfl⟩
        congr 1
        funext k
        unfold begR
        rw [up_app]
        by_cases h0 : k = 0
        · rw [if_pos h0, if_pos h0]
        · rw [if_neg h0, if_neg h0, show f = 116 by omega]
      · exfalso; omega
    | succ d ih =>
      intro f i J hd hi hJ
      subst hJ
      refine r_iload_n (pc := 2) dX12_begin_2 rfl ?_
      refine r_bipush (pc := 3) dX12_begin_3 (by decide) ?_
      refine r_icmp_ge (pc := 5) 18 dX12_begin_5 (by decide) (by omega) (by omega) (fun h5 => ?_) (fun h5 => ?_)
      · exfalso; omega
      · skip
        refine r_aload_n (pc := 8) dX12_begin_8 rfl ?_
        refine r_iload_n (pc := 9) dX12_begin_9 rfl ?_
        refine r_iconst (pc := 10) dX12_begin_10 ?_
        refine r_iast (j := f) (pc := 11) dX12_begin_11 (by assumption) (by omega) (by omega) (by omega) (by omega) ?_
        try simp only [u2_I, uR_uR, uR_app, eq_self, Nat.reduceEqDiff, Nat.add_eq_left, Nat.left_eq_add, ↓reduceIte]
        refine r_iinc (pc := 12) dX12_begin_12 rfl ?_
        refine r_goto (pc := 15) 2 dX12_begin_15 (by decide) ?_
        refine ih (f + 1) _ _ (by omega) (by omega) ?_
        congr 1
        funext k
        rw [up_app]
        by_cases h0 : k = f
        · rw [if_pos h0, if_pos (by omega)]
        · rw [if_neg h0]
          by_cases h1 : k < f
          · rw [if_pos h1, if_pos (by omega)]
          · rw [if_neg h1, if_neg (by omega)]
  refine r_iconst (pc := 0) dX12_begin_0 ?_
  refine r_istore_n (pc := 1) dX12_begin_1 (by decide) ?_
  refine loop 116 0 _ _ (by omega) rfl ?_
  exact (uR_same I a).symm
theorem sX12_families (hm : RfL G C P m := by assumption) (hR : I (m + 1) = R := by first | exact uR_s _ _ _ | rfl) : SX12_families G [.ref m] C I P L (NI C (XI (R 6) I P L)) := by
  obtain ⟨hBm, hKm, hK1, hK2, hK3, hK4, hK5, hK6, hK7, hK8, hK9, hK10, hK11, hP0, hP1, hP2, hP3, hP6, hP7, hP8, hP9, hP10, hP16, hP17⟩ := id hm
  subst hR
  refine en_I (by decide +kernel) (Nat.le_of_ble_eq_true rfl) ?_
  change Wd _ _ _ _ _ _ _ _ 0 [some _] [] _ _ _ _
  refine r_aload_n (pc := 0) dX12_families_0 rfl ?_
  refine r_getA (pc := 1) dX12_families_1 frX12_7 (by assumption) (by assumption) ?_
  refine r_bipush (pc := 4) dX12_families_4 (by decide) ?_
  refine r_iald (j := 6) (pc := 6) dX12_families_6 (by assumption) rfl (by omega) (by omega) ?_
  refine t_iret (pc := 7) dX12_families_7 rfl rfl ?_
  exact ⟨rfl, rfl, rfl, rfl⟩
theorem sX12_of {f w : Int} {k : Nat} (hk : (k : Int) = 7 + 4 * f + w) (hm : RfL G C P m := by assumption) (hR : I (m + 1) = R := by first | exact uR_s _ _ _ | rfl) (hk2 : k < 31 := by omega) : SX12_of G [.ref m, .int (zI f), .int (zI w)] C I P L (NI C (XI (R k) I P L)) := by
  obtain ⟨hBm, hKm, hK1, hK2, hK3, hK4, hK5, hK6, hK7, hK8, hK9, hK10, hK11, hP0, hP1, hP2, hP3, hP6, hP7, hP8, hP9, hP10, hP16, hP17⟩ := id hm
  subst hR
  refine en_I (by decide +kernel) (Nat.le_of_ble_eq_true rfl) ?_
  change Wd _ _ _ _ _ _ _ _ 0 [some _, some _, some _] [] _ _ _ _
  refine r_aload_n (pc := 0) dX12_of_0 rfl ?_
  refine r_getA (pc := 1) dX12_of_1 frX12_7 (by assumption) (by assumption) ?_
  refine r_bipush (pc := 4) dX12_of_4 (by decide) ?_
  refine r_iconst (pc := 6) dX12_of_6 ?_
  refine r_iload_n (pc := 7) dX12_of_7 rfl ?_
  refine r_imul (pc := 8) dX12_of_8 ?_
  refine r_iadd (pc := 9) dX12_of_9 ?_
  refine r_iload_n (pc := 10) dX12_of_10 rfl ?_
  refine r_iadd (pc := 11) dX12_of_11 ?_
  refine r_iald (j := k) (pc := 12) dX12_of_12 (by assumption) (by omega) (by omega) (by omega) ?_
  refine t_iret (pc := 13) dX12_of_13 rfl rfl ?_
  exact ⟨rfl, rfl, rfl, rfl⟩
theorem sX12_isFamily {f : Int} (hm : RfL G C P m := by assumption) (hR : I (m + 1) = R := by first | exact uR_s _ _ _ | rfl) (hf : iR f := by omega) (h6 : 0 ≤ R 6 ∧ R 6 ≤ 6 := by omega) : SX12_isFamily G [.ref m, .int (zI f)] C I P L (NI C (XI (if 0 ≤ f ∧ f ≤ R 6 - 1 then 1 else 0) I P L)) := by
  obtain ⟨hBm, hKm, hK1, hK2, hK3, hK4, hK5, hK6, hK7, hK8, hK9, hK10, hK11, hP0, hP1, hP2, hP3, hP6, hP7, hP8, hP9, hP10, hP16, hP17⟩ := id hm
  subst hR
  refine en_I (by decide +kernel) (Nat.le_of_ble_eq_true rfl) ?_
  change Wd _ _ _ _ _ _ _ _ 0 [some _, some _] [] _ _ _ _
  refine r_iload_n (pc := 0) dX12_isFamily_0 rfl ?_
  refine r_i2l (pc := 1) dX12_isFamily_1 (by omega) ?_
  refine r_lconst (v := 0) (pc := 2) dX12_isFamily_2 (by decide) ?_
  refine r_aload_n (pc := 3) dX12_isFamily_3 rfl ?_
  refine i_V0ix (pc := 4) okX12_families inX12_families selX12_families q1118 dX12_isFamily_4 (by assumption) rfl (by decide) (Nat.le_of_ble_eq_true rfl) (sX12_families) ?_
  refine r_iconst (pc := 7) dX12_isFamily_7 ?_
  refine r_isub (pc := 8) dX12_isFamily_8 ?_
  refine r_i2l (pc := 9) dX12_isFamily_9 (by omega) ?_
  refine i_S3ix (pc := 10) okX12_in staX12_in q1098 dX12_isFamily_10 (by decide) (Nat.le_of_ble_eq_true rfl) (sX12_in) ?_
  refine t_iret (pc := 13) dX12_isFamily_13 rfl (nar_z (by split <;> simp)) ?_
  exact ⟨rfl, rfl, rfl, rfl⟩
theorem sX12_makes {k : Int} (hk : iR k := by omega) : SX12_makes G [.int (zI k)] C I P L (NI C (XI (makesK k) I P L)) := by
  refine en_I (by decide +kernel) (Nat.le_of_ble_eq_true rfl) ?_
  change Wd _ _ _ _ _ _ _ _ 0 [some _] [] _ _ _ _
  refine r_iload_n (pc := 0) dX12_makes_0 rfl ?_
  refine r_iconst (pc := 1) dX12_makes_1 ?_
  refine r_icmp_ne (pc := 2) 9 dX12_makes_2 (by decide) (by omega) (by omega) (fun h2 => ?_) (fun h2 => ?_)
  · skip
    refine r_iconst (pc := 9) dX12_makes_9 ?_
    refine t_iret (pc := 10) dX12_makes_10 rfl rfl ?_
    exact ⟨by unfold makesK; first | rw [if_pos (by omega)] | rw [if_neg (by omega)], rfl, rfl, rfl⟩
  · skip
    refine r_iconst (pc := 5) dX12_makes_5 ?_
    refine r_goto (pc := 6) 10 dX12_makes_6 (by decide) ?_
    refine t_iret (pc := 10) dX12_makes_10 rfl rfl ?_
    exact ⟨by unfold makesK; first | rw [if_pos (by omega)] | rw [if_neg (by omega)], rfl, rfl, rfl⟩
theorem sX12_tends {k : Int} (hk : iR k := by omega) : SX12_tends G [.int (zI k)] C I P L (NI C (XI (tendsK k) I P L)) := by
  refine en_I (by decide +kernel) (Nat.le_of_ble_eq_true rfl) ?_
  change Wd _ _ _ _ _ _ _ _ 0 [some _] [] _ _ _ _
  refine r_iload_n (pc := 0) dX12_tends_0 rfl ?_
  refine r_iconst (pc := 1) dX12_tends_1 ?_
  refine r_icmp_ne (pc := 2) 9 dX12_tends_2 (by decide) (by omega) (by omega) (fun h2 => ?_) (fun h2 => ?_)
  · skip
    refine r_iload_n (pc := 9) dX12_tends_9 rfl ?_
    refine r_iconst (pc := 10) dX12_tends_10 ?_
    refine r_icmp_ne (pc := 11) 18 dX12_tends_11 (by decide) (by omega) (by omega) (fun h11 => ?_) (fun h11 => ?_)
    · skip
      refine r_iconst (pc := 18) dX12_tends_18 ?_
      refine t_iret (pc := 19) dX12_tends_19 rfl rfl ?_
      exact ⟨by unfold tendsK; first | rw [if_pos (by omega)] | rw [if_neg (by omega), if_pos (by omega)] | rw [if_neg (by omega), if_neg (by omega)], rfl, rfl, rfl⟩
    · skip
      refine r_iconst (pc := 14) dX12_tends_14 ?_
      refine r_goto (pc := 15) 19 dX12_tends_15 (by decide) ?_
      refine t_iret (pc := 19) dX12_tends_19 rfl rfl ?_
      exact ⟨by unfold tendsK; first | rw [if_pos (by omega)] | rw [if_neg (by omega), if_pos (by omega)] | rw [if_neg (by omega), if_neg (by omega)], rfl, rfl, rfl⟩
  · skip
    refine r_iconst (pc := 5) dX12_tends_5 ?_
    refine r_goto (pc := 6) 19 dX12_tends_6 (by decide) ?_
    refine t_iret (pc := 19) dX12_tends_19 rfl rfl ?_
    exact ⟨by unfold tendsK; first | rw [if_pos (by omega)] | rw [if_neg (by omega), if_pos (by omega)] | rw [if_neg (by omega), if_neg (by omega)], rfl, rfl, rfl⟩
theorem sX12_isNoon {y : Int} (hm : RfL G C P m := by assumption) (hR : I (m + 1) = R := by first | exact uR_s _ _ _ | rfl) (h0 : 2 ≤ R 0 ∧ R 0 ≤ 70 := by omega) (hy : 0 ≤ y ∧ y ≤ 2000000 := by omega) : SX12_isNoon G [.ref m, .int (zI y)] C I P L (NI C (XI (if noonF R y = true then 1 else 0) I P L)) := by
  obtain ⟨hBm, hKm, hK1, hK2, hK3, hK4, hK5, hK6, hK7, hK8, hK9, hK10, hK11, hP0, hP1, hP2, hP3, hP6, hP7, hP8, hP9, hP10, hP16, hP17⟩ := id hm
  subst hR
  have hm1 := Int.emod_nonneg y (show I (m + 1) 0 ≠ 0 by omega)
  have hm2 := Int.emod_lt_of_pos y (show 0 < I (m + 1) 0 by omega)
  refine en_I (by decide +kernel) (Nat.le_of_ble_eq_true rfl) ?_
  change Wd _ _ _ _ _ _ _ _ 0 [some _, some _] [] _ _ _ _
  refine r_iload_n (pc := 0) dX12_isNoon_0 rfl ?_
  refine r_aload_n (pc := 1) dX12_isNoon_1 rfl ?_
  refine r_getA (pc := 2) dX12_isNoon_2 frX12_7 (by assumption) (by assumption) ?_
  refine r_iconst (pc := 5) dX12_isNoon_5 ?_
  refine r_iald (j := 0) (pc := 6) dX12_isNoon_6 (by assumption) rfl (by omega) (by omega) ?_
  refine r_irem (pc := 7) dX12_isNoon_7 (by omega) (by omega) (by omega) (by omega) ?_
  refine r_aload_n (pc := 8) dX12_isNoon_8 rfl ?_
  refine r_getA (pc := 9) dX12_isNoon_9 frX12_7 (by assumption) (by assumption) ?_
  refine r_iconst (pc := 12) dX12_isNoon_12 ?_
  refine r_iald (j := 0) (pc := 13) dX12_isNoon_13 (by assumption) rfl (by omega) (by omega) ?_
  refine r_iconst (pc := 14) dX12_isNoon_14 ?_
  refine r_isub (pc := 15) dX12_isNoon_15 ?_
  refine r_icmp_ne (pc := 16) 23 dX12_isNoon_16 (by decide) (by omega) (by omega) (fun h16 => ?_) (fun h16 => ?_)
  · skip
    refine r_iconst (pc := 23) dX12_isNoon_23 ?_
    refine t_iret (pc := 24) dX12_isNoon_24 rfl rfl ?_
    exact ⟨by unfold noonF; first | rw [if_pos (decide_eq_true (by omega))] | rw [if_neg (by rw [decide_eq_true_eq]; omega)], rfl, rfl, rfl⟩
  · skip
    refine r_iconst (pc := 19) dX12_isNoon_19 ?_
    refine r_goto (pc := 20) 24 dX12_isNoon_20 (by decide) ?_
    refine t_iret (pc := 24) dX12_isNoon_24 rfl rfl ?_
    exact ⟨by unfold noonF; first | rw [if_pos (decide_eq_true (by omega))] | rw [if_neg (by rw [decide_eq_true_eq]; omega)], rfl, rfl, rfl⟩
theorem sX12_eatsOf {f : Nat} {x y : Int} (hm : RfL G C P m := by assumption) (hR : I (m + 1) = R := by first | exact uR_s _ _ _ | rfl) (hF : FI R Y := by assumption) (hx : x = (f : Int) := by first | rfl | omega) (hf : f < 6 := by omega) (hy : 0 ≤ y ∧ y ≤ 2000000 := by omega) : SX12_eatsOf G [.ref m, .int (zI x), .int (zI y)] C I P L (NI C (XI (mealK (R (7 + 4 * f)) (R (8 + 4 * f)) (noonF R y)) I P L)) := by
  obtain ⟨hBm, hKm, hK1, hK2, hK3, hK4, hK5, hK6, hK7, hK8, hK9, hK10, hK11, hP0, hP1, hP2, hP3, hP6, hP7, hP8, hP9, hP10, hP16, hP17⟩ := id hm
  subst hR
  have h0 := hF.1
  obtain ⟨f1, f2, f3, f4, f5⟩ := hF.2.2.2.2.2.2.2 f hf
  have nb : ∀ b : Bool, iR (if b = true then 1 else 0) := fun b => by cases b <;> decide
  refine en_I (by decide +kernel) (Nat.le_of_ble_eq_true rfl) ?_
  change Wd _ _ _ _ _ _ _ _ 0 [some _, some _, some _, none, none] [] _ _ _ _
  refine r_aload_n (pc := 0) dX12_eatsOf_0 rfl ?_
  refine r_iload_n (pc := 1) dX12_eatsOf_1 rfl ?_
  refine r_iconst (pc := 2) dX12_eatsOf_2 ?_
  refine i_V2ix (pc := 3) okX12_of inX12_of selX12_of q1137 dX12_eatsOf_3 (by assumption) rfl (by decide) (Nat.le_of_ble_eq_true rfl) (sX12_of (k := 8 + 4 * f) (by omega)) ?_
  refine r_istore_n (pc := 6) dX12_eatsOf_6 (by decide) ?_
  refine r_aload_n (pc := 7) dX12_eatsOf_7 rfl ?_
  refine r_iload_n (pc := 8) dX12_eatsOf_8 rfl ?_
  refine r_iconst (pc := 9) dX12_eatsOf_9 ?_
  refine i_V2ix (pc := 10) okX12_of inX12_of selX12_of q1137 dX12_eatsOf_10 (by assumption) rfl (by decide) (Nat.le_of_ble_eq_true rfl) (sX12_of (k := 7 + 4 * f) (by omega)) ?_
  refine r_istore (pc := 13) dX12_eatsOf_13 (by decide) ?_
  refine r_iload (pc := 15) dX12_eatsOf_15 rfl ?_
  refine r_iconst (pc := 17) dX12_eatsOf_17 ?_
  refine r_icmp_ne (pc := 18) 27 dX12_eatsOf_18 (by decide) (by first | omega | exact nb _) (by first | omega | exact nb _) (fun h18 => ?_) (fun h18 => ?_)
  · skip
    refine r_iload (pc := 27) dX12_eatsOf_27 rfl ?_
    refine r_iconst (pc := 29) dX12_eatsOf_29 ?_
    refine r_icmp_ne (pc := 30) 49 dX12_eatsOf_30 (by decide) (by first | omega | exact nb _) (by first | omega | exact nb _) (fun h30 => ?_) (fun h30 => ?_)
    · skip
      refine r_iload_n (pc := 49) dX12_eatsOf_49 rfl ?_
      refine t_iret (pc := 50) dX12_eatsOf_50 rfl rfl ?_
      refine ⟨?_, rfl, rfl, rfl⟩
      unfold mealK
      rw [if_neg h18, if_neg (by first | exact fun q => h30 q.1 | exact fun q => by rw [q.2] at h38; exact h38 rfl)]
    · skip
      refine r_aload_n (pc := 33) dX12_eatsOf_33 rfl ?_
      refine r_iload_n (pc := 34) dX12_eatsOf_34 rfl ?_
      refine i_V1ix (pc := 35) okX12_isNoon inX12_isNoon selX12_isNoon q1153 dX12_eatsOf_35 (by assumption) rfl (by decide) (Nat.le_of_ble_eq_true rfl) (sX12_isNoon) ?_
      refine r_if_ne (pc := 38) 49 dX12_eatsOf_38 (by decide) (by first | omega | exact nb _) (fun h38 => ?_) (fun h38 => ?_)
      · skip
        refine r_iload_n (pc := 49) dX12_eatsOf_49 rfl ?_
        refine t_iret (pc := 50) dX12_eatsOf_50 rfl rfl ?_
        refine ⟨?_, rfl, rfl, rfl⟩
        unfold mealK
        rw [if_neg h18, if_neg (by first | exact fun q => h30 q.1 | exact fun q => by rw [q.2] at h38; exact h38 rfl)]
      · skip
        refine r_iload_n (pc := 41) dX12_eatsOf_41 rfl ?_
        refine r_iconst (pc := 42) dX12_eatsOf_42 ?_
        refine r_iadd (pc := 43) dX12_eatsOf_43 ?_
        refine r_iconst (pc := 44) dX12_eatsOf_44 ?_
        refine r_idiv (pc := 45) dX12_eatsOf_45 (by first | omega | exact nb _) (by first | omega | exact nb _) (by first | omega | exact nb _) (by first | omega | exact nb _) ?_
        refine r_goto (pc := 46) 50 dX12_eatsOf_46 (by decide) ?_
        refine t_iret (pc := 50) dX12_eatsOf_50 rfl rfl ?_
        refine ⟨?_, rfl, rfl, rfl⟩
        unfold mealK
        rw [if_neg h18, if_pos ⟨h30, by revert h38; cases noonF (I (m + 1)) y <;> simp⟩]
  · skip
    refine r_iload_n (pc := 21) dX12_eatsOf_21 rfl ?_
    refine r_iconst (pc := 22) dX12_eatsOf_22 ?_
    refine r_iadd (pc := 23) dX12_eatsOf_23 ?_
    refine r_goto (pc := 24) 50 dX12_eatsOf_24 (by decide) ?_
    refine t_iret (pc := 50) dX12_eatsOf_50 rfl rfl ?_
    exact ⟨by unfold mealK; rw [if_pos h18], rfl, rfl, rfl⟩
theorem sX12_put {x v : Int} {k : Nat} (hm : RfL G C P m := by assumption) (hR : I (m + 1) = R := by first | exact uR_s _ _ _ | rfl) (hx : x = (k : Int) := by first | rfl | omega) (hk : k < 236 := by omega) (hv : iR (R k + v) := by omega) : SX12_put G [.ref m, .int (zI x), .int (zI v)] C I P L (NV C (XV (uR I (m + 1) (up R k (cut (R k + v)))) P L)) := by
  obtain ⟨hBm, hKm, hK1, hK2, hK3, hK4, hK5, hK6, hK7, hK8, hK9, hK10, hK11, hP0, hP1, hP2, hP3, hP6, hP7, hP8, hP9, hP10, hP16, hP17⟩ := id hm
  subst hR
  refine en_V (by decide +kernel) (Nat.le_of_ble_eq_true rfl) ?_
  change Wd _ _ _ _ _ _ _ _ 0 [some _, some _, some _, none] [] _ _ _ _
  refine r_aload_n (pc := 0) dX12_put_0 rfl ?_
  refine r_getA (pc := 1) dX12_put_1 frX12_7 (by assumption) (by assumption) ?_
  refine r_iload_n (pc := 4) dX12_put_4 rfl ?_
  refine r_iald (j := k) (pc := 5) dX12_put_5 (by assumption) (by omega) (by omega) (by omega) ?_
  refine r_iload_n (pc := 6) dX12_put_6 rfl ?_
  refine r_iadd (pc := 7) dX12_put_7 ?_
  refine r_istore_n (pc := 8) dX12_put_8 (by decide) ?_
  refine r_aload_n (pc := 9) dX12_put_9 rfl ?_
  refine r_getA (pc := 10) dX12_put_10 frX12_7 (by assumption) (by assumption) ?_
  refine r_iload_n (pc := 13) dX12_put_13 rfl ?_
  refine r_iload_n (pc := 14) dX12_put_14 rfl ?_
  refine r_sipush (pc := 15) dX12_put_15 (by decide) ?_
  refine r_icmp_le (pc := 18) 27 dX12_put_18 (by decide) (by omega) (by omega) (fun h18 => ?_) (fun h18 => ?_)
  · skip
    refine r_iload_n (pc := 27) dX12_put_27 rfl ?_
    refine r_if_ge (pc := 28) 35 dX12_put_28 (by decide) (by omega) (fun h28 => ?_) (fun h28 => ?_)
    · skip
      refine r_iload_n (pc := 35) dX12_put_35 rfl ?_
      refine r_iast (j := k) (pc := 36) dX12_put_36 (by assumption) (by omega) (by omega) (by omega) (by omega) ?_
      try simp only [u2_I, uR_uR, uR_app, eq_self, Nat.reduceEqDiff, Nat.add_eq_left, Nat.left_eq_add, ↓reduceIte]
      refine t_vret (pc := 37) dX12_put_37 rfl ?_
      refine ⟨?_, rfl, rfl⟩
      congr 2
      unfold cut
      first | rw [if_pos (by omega)] | rw [if_neg (by omega), if_pos (by omega)] | rw [if_neg (by omega), if_neg (by omega)]
    · skip
      refine r_iconst (pc := 31) dX12_put_31 ?_
      refine r_goto (pc := 32) 36 dX12_put_32 (by decide) ?_
      refine r_iast (j := k) (pc := 36) dX12_put_36 (by assumption) (by omega) (by omega) (by omega) (by omega) ?_
      try simp only [u2_I, uR_uR, uR_app, eq_self, Nat.reduceEqDiff, Nat.add_eq_left, Nat.left_eq_add, ↓reduceIte]
      refine t_vret (pc := 37) dX12_put_37 rfl ?_
      refine ⟨?_, rfl, rfl⟩
      congr 2
      unfold cut
      first | rw [if_pos (by omega)] | rw [if_neg (by omega), if_pos (by omega)] | rw [if_neg (by omega), if_neg (by omega)]
  · skip
    refine r_sipush (pc := 21) dX12_put_21 (by decide) ?_
    refine r_goto (pc := 24) 36 dX12_put_24 (by decide) ?_
    refine r_iast (j := k) (pc := 36) dX12_put_36 (by assumption) (by omega) (by omega) (by omega) (by omega) ?_
    try simp only [u2_I, uR_uR, uR_app, eq_self, Nat.reduceEqDiff, Nat.add_eq_left, Nat.left_eq_add, ↓reduceIte]
    refine t_vret (pc := 37) dX12_put_37 rfl ?_
    refine ⟨?_, rfl, rfl⟩
    congr 2
    unfold cut
    first | rw [if_pos (by omega)] | rw [if_neg (by omega), if_pos (by omega)] | rw [if_neg (by omega), if_neg (by omega)]
end REF1

