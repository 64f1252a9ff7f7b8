/-! the books: their cells, read at the places that the row of numbers has -/
def rdB (I : MI) (b k : Nat) : Int := if k = 33 then I b 1 else if k = 58 then I b 0 else if k = 59 then I b 2 else if k = 90 then I b 3 else if k < 33 then 0 else if k < 58 then I (b + 1 + (k - 34) % 3) ((k - 34) / 3) else if k < 90 then I (b + 4 + (k - 60) % 3) ((k - 60) / 3) else if k < 115 then I (b + 7) (k - 91) else 0
theorem rdB_def (I : MI) (b k : Nat) : rdB I b k = if k = 33 then I b 1 else if k = 58 then I b 0 else if k = 59 then I b 2 else if k = 90 then I b 3 else if k < 33 then 0 else if k < 58 then I (b + 1 + (k - 34) % 3) ((k - 34) / 3) else if k < 90 then I (b + 4 + (k - 60) % 3) ((k - 60) / 3) else if k < 115 then I (b + 7) (k - 91) else 0 := rfl
theorem rb_0 (I : MI) (b : Nat) (v : Int) : rdB (u2 I b 0 v) b = up (rdB I b) 58 v := by
  funext k
  simp only [rdB_def, up_app, u2_app, eq_self, true_and, and_true, if_true, and_false, false_and, if_false, Nat.reduceEqDiff]
  (repeat' split) <;> first | rfl | (exfalso; omega)
theorem rb_1 (I : MI) (b : Nat) (v : Int) : rdB (u2 I b 1 v) b = up (rdB I b) 33 v := by
  funext k
  simp only [rdB_def, up_app, u2_app, eq_self, true_and, and_true, if_true, and_false, false_and, if_false, Nat.reduceEqDiff]
  (repeat' split) <;> first | rfl | (exfalso; omega)
theorem rb_2 (I : MI) (b : Nat) (v : Int) : rdB (u2 I b 2 v) b = up (rdB I b) 59 v := by
  funext k
  simp only [rdB_def, up_app, u2_app, eq_self, true_and, and_true, if_true, and_false, false_and, if_false, Nat.reduceEqDiff]
  (repeat' split) <;> first | rfl | (exfalso; omega)
theorem rb_3 (I : MI) (b : Nat) (v : Int) : rdB (u2 I b 3 v) b = up (rdB I b) 90 v := by
  funext k
  simp only [rdB_def, up_app, u2_app, eq_self, true_and, and_true, if_true, and_false, false_and, if_false, Nat.reduceEqDiff]
  (repeat' split) <;> first | rfl | (exfalso; omega)
theorem rb_d (I : MI) (b : Nat) {j q : Nat} (v : Int) (hj : j < 8) (hq : q < 3) : rdB (u2 I (b + 1 + q) j v) b = up (rdB I b) (34 + 3 * j + q) v := by
  funext k
  simp only [rdB_def, up_app, u2_app, eq_self, true_and, and_true, if_true, and_false, false_and, if_false, Nat.reduceEqDiff]
  (repeat' split) <;> first | rfl | (exfalso; omega)
theorem rb_r (I : MI) (b : Nat) {j q : Nat} (v : Int) (hj : j < 10) (hq : q < 3) : rdB (u2 I (b + 4 + q) j v) b = up (rdB I b) (60 + 3 * j + q) v := by
  funext k
  simp only [rdB_def, up_app, u2_app, eq_self, true_and, and_true, if_true, and_false, false_and, if_false, Nat.reduceEqDiff]
  (repeat' split) <;> first | rfl | (exfalso; omega)
theorem rb_w (I : MI) (b : Nat) {j : Nat} (v : Int) (hj : j < 24) : rdB (u2 I (b + 7) j v) b = up (rdB I b) (91 + j) v := by
  funext k
  simp only [rdB_def, up_app, u2_app, eq_self, true_and, and_true, if_true, and_false, false_and, if_false, Nat.reduceEqDiff]
  (repeat' split) <;> first | rfl | (exfalso; omega)
theorem ab_0 (I : MI) (b : Nat) : I b 0 = rdB I b 58 := rfl
theorem ab_1 (I : MI) (b : Nat) : I b 1 = rdB I b 33 := rfl
theorem ab_2 (I : MI) (b : Nat) : I b 2 = rdB I b 59 := rfl
theorem ab_3 (I : MI) (b : Nat) : I b 3 = rdB I b 90 := rfl
theorem ab_d (I : MI) (b : Nat) {j q : Nat} (hj : j < 8) (hq : q < 3) : I (b + 1 + q) j = rdB I b (34 + 3 * j + q) := by
  rw [rdB_def, if_neg (by omega), if_neg (by omega), if_neg (by omega), if_neg (by omega), if_neg (by omega), if_pos (by omega)]
  congr 1 <;> omega
theorem ab_r (I : MI) (b : Nat) {j q : Nat} (hj : j < 10) (hq : q < 3) : I (b + 4 + q) j = rdB I b (60 + 3 * j + q) := by
  rw [rdB_def, if_neg (by omega), if_neg (by omega), if_neg (by omega), if_neg (by omega), if_neg (by omega), if_neg (by omega), if_pos (by omega)]
  congr 1 <;> omega
theorem ab_w (I : MI) (b : Nat) {j : Nat} (hj : j < 24) : I (b + 7) j = rdB I b (91 + j) := by
  rw [rdB_def, if_neg (by omega), if_neg (by omega), if_neg (by omega), if_neg (by omega), if_neg (by omega), if_neg (by omega), if_neg (by omega), if_pos (by omega)]
  congr 1; omega
theorem ab_f (I : MI) (b : Nat) {j : Nat} (hj : j < 8) : I (b + 1) j = rdB I b (34 + 3 * j) := ab_d I b hj (by decide : 0 < 3)
theorem ab_t (I : MI) (b : Nat) {j : Nat} (hj : j < 8) : I (b + 2) j = rdB I b (35 + 3 * j) := by rw [show 35 + 3 * j = 34 + 3 * j + 1 by omega, ← ab_d I b hj (by decide : 1 < 3)]
theorem ab_o (I : MI) (b : Nat) {j : Nat} (hj : j < 8) : I (b + 3) j = rdB I b (36 + 3 * j) := by rw [show 36 + 3 * j = 34 + 3 * j + 2 by omega, ← ab_d I b hj (by decide : 2 < 3)]
theorem ab_y (I : MI) (b : Nat) {j : Nat} (hj : j < 10) : I (b + 4) j = rdB I b (60 + 3 * j) := ab_r I b hj (by decide : 0 < 3)
theorem ab_l (I : MI) (b : Nat) {j : Nat} (hj : j < 10) : I (b + 5) j = rdB I b (61 + 3 * j) := by rw [show 61 + 3 * j = 60 + 3 * j + 1 by omega, ← ab_r I b hj (by decide : 1 < 3)]
theorem ab_c (I : MI) (b : Nat) {j : Nat} (hj : j < 10) : I (b + 6) j = rdB I b (62 + 3 * j) := by rw [show 62 + 3 * j = 60 + 3 * j + 2 by omega, ← ab_r I b hj (by decide : 2 < 3)]
theorem rb_f (I : MI) (b : Nat) {j : Nat} (v : Int) (hj : j < 8) : rdB (u2 I (b + 1) j v) b = up (rdB I b) (34 + 3 * j) v := rb_d I b v hj (by decide : 0 < 3)
theorem rb_t (I : MI) (b : Nat) {j : Nat} (v : Int) (hj : j < 8) : rdB (u2 I (b + 2) j v) b = up (rdB I b) (35 + 3 * j) v := by rw [show 35 + 3 * j = 34 + 3 * j + 1 by omega, ← rb_d I b v hj (by decide : 1 < 3)]
theorem rb_o (I : MI) (b : Nat) {j : Nat} (v : Int) (hj : j < 8) : rdB (u2 I (b + 3) j v) b = up (rdB I b) (36 + 3 * j) v := by rw [show 36 + 3 * j = 34 + 3 * j + 2 by omega, ← rb_d I b v hj (by decide : 2 < 3)]
theorem rb_y (I : MI) (b : Nat) {j : Nat} (v : Int) (hj : j < 10) : rdB (u2 I (b + 4) j v) b = up (rdB I b) (60 + 3 * j) v := rb_r I b v hj (by decide : 0 < 3)
theorem rb_l (I : MI) (b : Nat) {j : Nat} (v : Int) (hj : j < 10) : rdB (u2 I (b + 5) j v) b = up (rdB I b) (61 + 3 * j) v := by rw [show 61 + 3 * j = 60 + 3 * j + 1 by omega, ← rb_r I b v hj (by decide : 1 < 3)]
theorem rb_c (I : MI) (b : Nat) {j : Nat} (v : Int) (hj : j < 10) : rdB (u2 I (b + 6) j v) b = up (rdB I b) (62 + 3 * j) v := by rw [show 62 + 3 * j = 60 + 3 * j + 2 by omega, ← rb_r I b v hj (by decide : 2 < 3)]
/-- outside the books' eight cells nothing changes -/
def outB (I I' : MI) (b : Nat) : Prop := ∀ x, (x < b ∨ b + 8 ≤ x) → I' x = I x
theorem outB.rf (I : MI) (b : Nat) : outB I I b := fun _ _ => rfl
theorem outB.tr {I I1 I2 : MI} {b : Nat} (h : outB I I1 b) (h2 : outB I1 I2 b) : outB I I2 b := fun x hx => (h2 x hx).trans (h x hx)
theorem outB.u {I I1 : MI} {a b k : Nat} {v : Int} (h : outB I I1 b) (hb : b ≤ a := by omega) (hb2 : a < b + 8 := by omega) : outB I (u2 I1 a k v) b := by
  intro x hx
  funext j
  unfold u2
  rw [if_neg (by omega)]
  exact congrFun (h x hx) j
theorem rdB_out {I I1 : MI} {a b : Nat} (h : outB I I1 a) (hb : b + 8 ≤ a ∨ a + 8 ≤ b := by omega) : rdB I1 b = rdB I b := by
  funext k
  simp only [rdB_def]
  rw [h b (by omega), h (b + 7) (by omega), h (b + 1 + (k - 34) % 3) (by omega), h (b + 4 + (k - 60) % 3) (by omega)]
def BooksL (G : WG) (C : CF) (P : MP) (b : Nat) : Prop := gB G ≤ b ∧ C.1 b = some (.inl 0) ∧ C.1 (b + 1) = some (.inr (0, 8)) ∧ C.1 (b + 2) = some (.inr (0, 8)) ∧ C.1 (b + 3) = some (.inr (0, 8)) ∧ C.1 (b + 4) = some (.inr (0, 10)) ∧ C.1 (b + 5) = some (.inr (0, 10)) ∧ C.1 (b + 6) = some (.inr (0, 10)) ∧ C.1 (b + 7) = some (.inr (0, 24)) ∧ P b 4 = some (b + 1) ∧ P b 5 = some (b + 2) ∧ P b 6 = some (b + 3) ∧ P b 7 = some (b + 4) ∧ P b 8 = some (b + 5) ∧ P b 9 = some (b + 6) ∧ P b 10 = some (b + 7)
/-- what holds of the books -/
def BI (B : Nat → Int) : Prop := (0 ≤ B 58 ∧ B 58 ≤ 50) ∧ (0 ≤ B 33 ∧ B 33 ≤ 8) ∧ (0 ≤ B 59 ∧ B 59 ≤ 10) ∧ (0 ≤ B 90 ∧ B 90 ≤ 4) ∧
  (∀ d, d < 8 → (0 ≤ B (34 + 3 * d) ∧ B (34 + 3 * d) ≤ 5) ∧ (0 ≤ B (35 + 3 * d) ∧ B (35 + 3 * d) ≤ 5) ∧ (0 ≤ B (36 + 3 * d) ∧ B (36 + 3 * d) ≤ 999)) ∧
  (∀ r, r < 10 → (0 ≤ B (60 + 3 * r) ∧ B (60 + 3 * r) ≤ 99) ∧ (0 ≤ B (61 + 3 * r) ∧ B (61 + 3 * r) ≤ 5) ∧ (0 ≤ B (62 + 3 * r) ∧ B (62 + 3 * r) ≤ 9999)) ∧
  (∀ i, i < 24 → 0 ≤ B (91 + i) ∧ B (91 + i) ≤ 25)
def QB (b : Nat) (I : MI) (B : Nat → Int) (P : MP) (L : ML) : MI → MP → ML → Prop := fun I1 P1 L1 => rdB I1 b = B ∧ outB I I1 b ∧ P = P1 ∧ L = L1
def QBI (b : Nat) (e : Int) (I : MI) (B : Nat → Int) (P : MP) (L : ML) : Int → MI → MP → ML → Prop := fun r I1 P1 L1 => r = e ∧ rdB I1 b = B ∧ outB I I1 b ∧ P = P1 ∧ L = L1
def begB (B : Nat → Int) : Nat → Int := up (up (up (up B 58 0) 33 0) 59 0) 90 0
theorem sX0_begin {G : WG} {C : CF} {I : MI} {P : MP} {L : ML} {b : Nat} (hb : BooksL G C P b := by assumption) : SX0_begin G [.ref b] C I P L (NV C (QB b I (begB (rdB I b)) P L)) := by
  obtain ⟨hB, hK, -⟩ := id hb
  refine en_V (by decide +kernel) (Nat.le_of_ble_eq_true rfl) ?_
  change Wd _ _ _ _ _ _ _ _ 0 [some _] [] _ _ _ _
  refine r_aload_n (pc := 0) dX0_begin_0 rfl ?_
  refine r_iconst (pc := 1) dX0_begin_1 ?_
  refine r_putI (pc := 2) dX0_begin_2 fwX0_33 (by assumption) (by omega) ?_
  refine r_aload_n (pc := 5) dX0_begin_5 rfl ?_
  refine r_iconst (pc := 6) dX0_begin_6 ?_
  refine r_putI (pc := 7) dX0_begin_7 fwX0_37 (by assumption) (by omega) ?_
  refine r_aload_n (pc := 10) dX0_begin_10 rfl ?_
  refine r_iconst (pc := 11) dX0_begin_11 ?_
  refine r_putI (pc := 12) dX0_begin_12 fwX0_40 (by assumption) (by omega) ?_
  refine r_aload_n (pc := 15) dX0_begin_15 rfl ?_
  refine r_iconst (pc := 16) dX0_begin_16 ?_
  refine r_putI (pc := 17) dX0_begin_17 fwX0_43 (by assumption) (by omega) ?_
  refine t_vret (pc := 20) dX0_begin_20 rfl ?_
  exact ⟨by rw [rb_3, rb_2, rb_1, rb_0]; rfl, (outB.rf I b).u.u.u.u, rfl, rfl⟩
/-- a row copied -/
def cpR (I : MI) (s t n : Nat) : MI := fun x k => if x = t ∧ k < n then I s k else I x k
theorem cpR_up (I : MI) (s t n : Nat) : u2 (cpR I s t n) t n (I s n) = cpR I s t (n + 1) := by
  funext x k
  simp only [u2_app, cpR]
  by_cases h : x = t ∧ k = n
  · rw [if_pos h, if_pos (by omega), h.2]
  · rw [if_neg h]
    by_cases h2 : x = t ∧ k < n
    · rw [if_pos h2, if_pos (by omega)]
    · rw [if_neg h2, if_neg (by omega)]
theorem cpR_s (I : MI) (s t n : Nat) (k : Nat) : cpR I s t n s k = I s k := by
  unfold cpR
  split <;> rfl
theorem cpR_n (I : MI) {s t n x : Nat} (h : x ≠ t) : cpR I s t n x = I x := by
  funext k
  unfold cpR
  rw [if_neg (by omega)]
theorem sX11_copy {G : WG} {C : CF} {I : MI} {P : MP} {L : ML} {s t n : Nat} (hK : C.1 s = some (.inr (0, n)) := by assumption) (hK2 : C.1 t = some (.inr (0, n)) := by assumption) (hB : gB G ≤ t := by omega) (hn : n ≤ 1000 := by omega) : SX11_copy G [.ref s, .ref t] C I P L (NV C (XV (cpR I s t n) P L)) := by
  generalize hq : XV (cpR I s t n) P L = q
  refine en_V (by decide +kernel) (Nat.le_of_ble_eq_true rfl) ?_
  change Wd _ _ _ _ _ _ _ _ 0 [some _, some _, none] [] _ _ _ _
  have loop : ∀ (d f : Nat) (i : Int) (I1 : MI), f + d = n → i = (f : Int) → I1 = cpR I s t f → Wd G yX11_copy cX11_copy 3 none 0 (C.2.1 + 0, C.2.2 + 0) (NV C q) 2 [some (.ref s), some (.ref t), some (.int (zI i))] [] C I1 P L := by
    intro d
    induction d using Nat.strongRecOn with
    | _ d ih =>
      intro f i I1 hd hi hI
      have e : I1 s f = I s f := by rw [hI, cpR_s]
      refine r_iload_n (pc := 2) dX11_copy_2 rfl ?_
      refine r_aload_n (pc := 3) dX11_copy_3 rfl ?_
      refine r_alen (pc := 4) dX11_copy_4 (by assumption) ?_
      refine r_icmp_ge (pc := 5) 26 dX11_copy_5 (by decide) (by omega) (by omega) (fun h5 => ?_) (fun h5 => ?_)
      · skip
        refine t_vret (pc := 26) dX11_copy_26 rfl ?_
        subst hq; exact ⟨by rw [hI, show n = f by omega], rfl, rfl⟩
      · skip
        refine r_iload_n (pc := 8) dX11_copy_8 rfl ?_
        refine r_aload_n (pc := 9) dX11_copy_9 rfl ?_
        refine r_alen (pc := 10) dX11_copy_10 (by assumption) ?_
        refine r_icmp_ge (pc := 11) 26 dX11_copy_11 (by decide) (by omega) (by omega) (fun h11 => ?_) (fun h11 => ?_)
        · exfalso; omega
        · skip
          refine r_aload_n (pc := 14) dX11_copy_14 rfl ?_
          refine r_iload_n (pc := 15) dX11_copy_15 rfl ?_
          refine r_aload_n (pc := 16) dX11_copy_16 rfl ?_
          refine r_iload_n (pc := 17) dX11_copy_17 rfl ?_
          refine r_iald (j := f) (pc := 18) dX11_copy_18 (by assumption) (by omega) (by omega) (by omega) ?_
          refine r_iast (j := f) (pc := 19) dX11_copy_19 (by assumption) (by omega) (by omega) (by omega) (by omega) ?_
          refine r_iinc (pc := 20) dX11_copy_20 rfl ?_
          refine r_goto (pc := 23) 2 dX11_copy_23 (by decide) ?_
          exact ih (d - 1) (by omega) (f + 1) _ _ (by omega) (by omega) (by rw [e, hI, cpR_up])
  refine r_iconst (pc := 0) dX11_copy_0 ?_
  refine r_istore_n (pc := 1) dX11_copy_1 (by decide) ?_
  exact loop n 0 _ _ (by omega) (by omega) (by funext x k; unfold cpR; rw [if_neg (by omega)])


