/-! the reference: the first item -/
def endN (b : Nat → Int) (n : Nat) (it : Int) (A : Bool × Nat × Nat × (Nat → Int)) (X : Nat → Int) : Bool × Nat × Nat × (Nat → Int) × (Nat → Int) := if A.1 = true then (if (tok b n A.2.2.1).2.2 = 1 then (true, (tok b n A.2.2.1).1, (tok b n A.2.2.1).2.1, addN it A.2.2.2 X, A.2.2.2) else (false, (tok b n A.2.2.1).1, (tok b n A.2.2.1).2.1, X, A.2.2.2)) else (false, A.2.1, A.2.2.1, X, A.2.2.2)
def argF (b : Nat → Int) (n : Nat) (T : Nat × Nat × Int) (X t : Nat → Int) : Bool × Nat × Nat × (Nat → Int) := if itemB b T.1 T.2.1 T.2.2 = 0 then argS b n 0 (X 6) (0 + 1) 0 T.2.1 t else (false, T.1, T.2.1, t)
def itemN (b : Nat → Int) (n : Nat) (T : Nat × Nat × Int) (f : Bool) (X t : Nat → Int) : Bool × Nat × Nat × (Nat → Int) × (Nat → Int) := if f = true then endN b n 0 (argF b n T X t) X else endN b n (itemB b T.1 T.2.1 T.2.2) (argN b n T X t) X
def readN (b : Nat → Int) (n : Nat) : Nat → Nat → Nat → (Nat → Int) → (Nat → Int) → Int × (Nat → Int)
  | 0, _, _, X, _ => (0, X)
  | d + 1, k, a, X, t => if (tok b n a).2.2 = 0 ∧ 0 < k then ((k : Int), X) else
      if (itemN b n (tok b n a) (decide (k = 0)) X t).1 = true then readN b n d (k + 1) (itemN b n (tok b n a) (decide (k = 0)) X t).2.2.1 (itemN b n (tok b n a) (decide (k = 0)) X t).2.2.2.1 (itemN b n (tok b n a) (decide (k = 0)) X t).2.2.2.2
      else (-10 - ((itemN b n (tok b n a) (decide (k = 0)) X t).2.1 : Int), (itemN b n (tok b n a) (decide (k = 0)) X t).2.2.2.1)
def inX (X : Nat → Int) : Prop := (0 ≤ X 6 ∧ X 6 ≤ 6) ∧ (0 ≤ X 33 ∧ X 33 ≤ 8)
theorem addN_in {X t : Nat → Int} {item : Nat} (hX : inX X) (hit : item < 5) (h2 : ¬ ((item : Int) = 2 ∧ 6 ≤ X 6)) (h4 : ¬ ((item : Int) = 4 ∧ 8 ≤ X 33)) (ht : ∀ j, j < (atT numsT item).toNat → inB item (X 6) j (t j)) : inX (addN (item : Int) t X) := by
  obtain ⟨hs, hd⟩ := id hX
  have hsz : sizeF X = (X 6).toNat := rfl
  rcases (show item = 0 ∨ item = 1 ∨ item = 2 ∨ item = 3 ∨ item = 4 by omega) with rfl | rfl | rfl | rfl | rfl
  · exact ⟨⟨(show (0 : Int) ≤ 0 by decide), (show (0 : Int) ≤ 6 by decide)⟩, ⟨(show (0 : Int) ≤ 0 by decide), (show (0 : Int) ≤ 8 by decide)⟩⟩
  · have t0 : 0 ≤ t 0 ∧ t 0 ≤ 3 := ht 0 (by decide)
    show inX (up X (2 + (t 0).toNat) (t 1))
    unfold inX
    rw [up_n _ _ (by omega), up_n _ _ (by omega)]; exact hX
  · show inX (setlF X (sizeF X) (t 0) (t 1) (t 2))
    unfold inX setlF
    rw [hsz, up_n _ _ (by omega), up_n _ _ (by omega), up_n _ _ (by omega), up_n _ _ (by omega), up_s, up_n _ _ (by omega), up_n _ _ (by omega), up_n _ _ (by omega), up_n _ _ (by omega), up_n _ _ (by omega)]
    omega
  · have t0 : 0 ≤ t 0 ∧ t 0 ≤ X 6 - 1 := ht 0 (by decide)
    show inX (up X (10 + 4 * (t 0).toNat) (t 1))
    unfold inX
    rw [up_n _ _ (by omega), up_n _ _ (by omega)]; exact hX
  · show inX (debtB X (X 33).toNat (t 0) (t 1) (t 2))
    unfold inX debtB
    rw [up_n _ _ (by omega), up_n _ _ (by omega), up_n _ _ (by omega), up_n _ _ (by omega), up_s]
    omega
theorem argN_ok {b : Nat → Int} {n : Nat} {T : Nat × Nat × Int} {X t : Nat → Int} (h : (argN b n T X t).1 = true) : ∃ item : Nat, itemB b T.1 T.2.1 T.2.2 = (item : Int) ∧ 1 ≤ item ∧ item < 5 ∧ ¬ ((item : Int) = 2 ∧ 6 ≤ X 6) ∧ ¬ ((item : Int) = 4 ∧ 8 ≤ X 33) ∧ ∀ j, j < (atT numsT item).toNat → inB item (X 6) j ((argN b n T X t).2.2.2 j) := by
  have hi := itemB_in b T.1 T.2.1 T.2.2
  unfold argN at h ⊢
  by_cases hc : itemB b T.1 T.2.1 T.2.2 = -1 ∨ itemB b T.1 T.2.1 T.2.2 = 0 ∨ (itemB b T.1 T.2.1 T.2.2 = 2 ∧ 6 ≤ X 6) ∨ (itemB b T.1 T.2.1 T.2.2 = 4 ∧ 8 ≤ X 33)
  · rw [if_pos hc] at h; cases h
  · rw [if_neg hc] at h ⊢
    refine ⟨(itemB b T.1 T.2.1 T.2.2).toNat, by omega, by omega, by omega, by omega, by omega, fun j hj => ?_⟩
    exact argS_ok b n _ (X 6) _ 0 T.2.1 t h (fun j hj => absurd hj (by omega)) j (by omega)
theorem argN_in (b : Nat → Int) (n : Nat) (T : Nat × Nat × Int) (X t : Nat → Int) (h : T.1 ≤ T.2.1 ∧ T.2.1 ≤ n) : T.2.1 ≤ (argN b n T X t).2.2.1 ∧ (argN b n T X t).2.2.1 ≤ n ∧ (argN b n T X t).2.1 ≤ n := by
  unfold argN
  split
  · exact ⟨Nat.le_refl _, h.2, Nat.le_trans h.1 h.2⟩
  · exact argS_in b n _ _ _ _ _ _ h.2
theorem argF_in (b : Nat → Int) (n : Nat) (T : Nat × Nat × Int) (X t : Nat → Int) (h : T.1 ≤ T.2.1 ∧ T.2.1 ≤ n) : T.2.1 ≤ (argF b n T X t).2.2.1 ∧ (argF b n T X t).2.2.1 ≤ n ∧ (argF b n T X t).2.1 ≤ n := by
  unfold argF
  split
  · exact argS_in b n _ _ _ _ _ _ h.2
  · exact ⟨Nat.le_refl _, h.2, Nat.le_trans h.1 h.2⟩
/-- an item's end -/
theorem endN_t {b : Nat → Int} {n : Nat} {it : Int} {A : Bool × Nat × Nat × (Nat → Int)} {X : Nat → Int} (h1 : A.1 = true) (h2 : (tok b n A.2.2.1).2.2 = 1) : endN b n it A X = (true, (tok b n A.2.2.1).1, (tok b n A.2.2.1).2.1, addN it A.2.2.2 X, A.2.2.2) := by unfold endN; rw [if_pos h1, if_pos h2]
theorem endN_m {b : Nat → Int} {n : Nat} {it : Int} {A : Bool × Nat × Nat × (Nat → Int)} {X : Nat → Int} (h1 : A.1 = true) (h2 : ¬ (tok b n A.2.2.1).2.2 = 1) : endN b n it A X = (false, (tok b n A.2.2.1).1, (tok b n A.2.2.1).2.1, X, A.2.2.2) := by unfold endN; rw [if_pos h1, if_neg h2]
theorem endN_f {b : Nat → Int} {n : Nat} {it : Int} {A : Bool × Nat × Nat × (Nat → Int)} {X : Nat → Int} (h1 : A.1 = false) : endN b n it A X = (false, A.2.1, A.2.2.1, X, A.2.2.2) := by unfold endN; rw [if_neg (by rw [h1]; decide)]
/-- what an item read leaves -/
def QEy (m n : Nat) (E : Bool × Nat × Nat × (Nat → Int) × (Nat → Int)) (I1 : MI) : Prop := E.1 = true ∧ (∃ T v, TSf n T v (I1 m) ∧ E.2.2.1 = T.2.1 ∧ T.1 < T.2.1 ∧ T.2.1 ≤ n) ∧ I1 (m + 10) = E.2.2.2.1 ∧ I1 (m + 11) = E.2.2.2.2
def QEn (m n : Nat) (E : Bool × Nat × Nat × (Nat → Int) × (Nat → Int)) (I1 : MI) : Prop := E.1 = false ∧ I1 m 11 = (n : Int) ∧ I1 m 12 = (E.2.1 : Int)
theorem QAr_yes {m n : Nat} {it : Int} {A : Bool × Nat × Nat × (Nat → Int)} {I : MI} {P : MP} {L : ML} {r : Int} {I1 : MI} {P1 : MP} {L1 : ML} (h : QAr m n it A I P L r I1 P1 L1) (hn : A.2.2.1 ≤ n) (hr : ¬ r = 0) (ht : I1 m 14 = 3) : QEy m n (endN (I (m + 9)) n it A (I (m + 10))) I1 := by
  rcases h.1 with ⟨h1, h2, h3, h4, h5⟩ | ⟨h1, h2, h3⟩
  · have hti := tok_in (I (m + 9)) hn
    have hkm := kM_in (so := (tok (I (m + 9)) n A.2.2.1).2.2) (by omega)
    have h31 := h3.2.2.2.1
    have hso : (tok (I (m + 9)) n A.2.2.1).2.2 = 1 := hkm.2.2.2.2.2.mp (by omega)
    rw [endN_t h1 hso]
    exact ⟨rfl, ⟨_, _, h3, rfl, hti.2.2.2.2.2.2 (by omega), hti.2.2.2.1⟩, h4, h5⟩
  · exact absurd h2 hr
theorem QAr_not {m n : Nat} {it : Int} {A : Bool × Nat × Nat × (Nat → Int)} {I : MI} {P : MP} {L : ML} {r : Int} {I1 : MI} {P1 : MP} {L1 : ML} (h : QAr m n it A I P L r I1 P1 L1) (hn : A.2.2.1 ≤ n) (hr : r = 0 ∨ ¬ I1 m 14 = 3) : QEn m n (endN (I (m + 9)) n it A (I (m + 10))) I1 := by
  rcases h.1 with ⟨h1, h2, h3, h4, h5⟩ | ⟨h1, h2, h3⟩
  · have hti := tok_in (I (m + 9)) hn
    have hkm := kM_in (so := (tok (I (m + 9)) n A.2.2.1).2.2) (by omega)
    have h31 := h3.2.2.2.1
    have hso : ¬ (tok (I (m + 9)) n A.2.2.1).2.2 = 1 := fun z => by
      have := hkm.2.2.2.2.2.mpr z
      omega
    rw [endN_m h1 hso]
    exact ⟨rfl, h3.1, h3.2.1⟩
  · rw [endN_f h1]
    exact ⟨rfl, h3⟩
section REF17
variable {G : WG} {C : CF} {I : MI} {P : MP} {L : ML} {m n : Nat} {T : Nat × Nat × Int} {v : Int}
theorem sX12_readsFirst (hm : RfL G C P m := by assumption) (hT : TSf n T v (I m) := by assumption) (h150 : n ≤ 150 := by omega) (hbb : ∀ j, j < 150 → 0 ≤ I (m + 9) j ∧ I (m + 9) j ≤ 127 := by assumption) (hTn : T.1 ≤ T.2.1 ∧ T.2.1 ≤ n := by omega) (hso : 0 ≤ T.2.2 ∧ T.2.2 ≤ 4 := by omega) : SX12_readsFirst G [.ref m] C I P L (NI C (fun r I1 P1 L1 => ((r = 1 ∧ QEy m n (endN (I (m + 9)) n 0 (argF (I (m + 9)) n T (I (m + 10)) (I (m + 11))) (I (m + 10))) I1) ∨ (r = 0 ∧ QEn m n (endN (I (m + 9)) n 0 (argF (I (m + 9)) n T (I (m + 10)) (I (m + 11))) (I (m + 10))) I1)) ∧ (∀ x, x ≠ m → x ≠ m + 10 → x ≠ m + 11 → I1 x = I x) ∧ P = P1 ∧ L = L1)) := by
  obtain ⟨hBm, hKm, hK1, hK2, hK3, hK4, hK5, hK6, hK7, hK8, hK9, hK10, hK11, hP0, hP1, hP2, hP3, hP6, hP7, hP8, hP9, hP10, hP16, hP17⟩ := id hm
  obtain ⟨b, hb⟩ : ∃ b, b = I (m + 9) := ⟨_, rfl⟩
  have hFi := argF_in b n T (I (m + 10)) (I (m + 11)) hTn
  rw [← hb] at hbb ⊢
  have t0 := tok_in b (n := n) (a := T.2.1) hTn.2
  have n0 := fun h => tok_num (b := b) (n := n) (a := T.2.1) h
  have t1 := tok_in b (n := n) (a := (tok b n T.2.1).2.1) t0.2.2.2.1
  have hF1 : itemB b T.1 T.2.1 T.2.2 = 0 → argF b n T (I (m + 10)) (I (m + 11)) = _ := fun h => (if_pos h).trans (arg_st b n 0 (I (m + 10) 6) 0 0 T.2.1 (I (m + 11)))
  have hF0 : ¬ itemB b T.1 T.2.1 T.2.2 = 0 → argF b n T (I (m + 10)) (I (m + 11)) = (false, T.1, T.2.1, I (m + 11)) := fun h => if_neg h
  rw [arg_0] at hF1
  simp only [ft00] at hF1
  have q0 := nm0 (b := b) (T := T)
  generalize argF b n T (I (m + 10)) (I (m + 11)) = A at hF1 hF0 hFi ⊢
  generalize itemB b T.1 T.2.1 T.2.2 = it at hF1 hF0 q0 ⊢
  generalize hT0 : tok b n T.2.1 = T0 at t0 n0 hF1 t1
  generalize hV0 : tokV b n T.2.1 = v0 at n0 hF1
  have hX : I (m + 10) = I (m + 10) := rfl
  refine en_I (by decide +kernel) (Nat.le_of_ble_eq_true rfl) ?_
  change Wd _ _ _ _ _ _ _ _ 0 [some _, none] [] _ _ _ _
  have mid : ∀ _u : Unit, ∀ (I0 I1 : MI) (r1 : Int), it = 0 → TSf n T0 v0 (I0 m) → I0 (m + 11) = I (m + 11) → (∀ x, x ≠ m → x ≠ m + 11 → I0 x = I x) → I0 (m + 9) = b → ((T0.2.2 = 3 ∧ 2 ≤ v0 ∧ v0 ≤ 70 ∧ r1 = 1 ∧ ∃ W, I1 = uR (uR I0 (m + 11) (up (I0 (m + 11)) 0 v0)) m W ∧ TSf n (tok (I0 (m + 9)) n T0.2.1) (tokV (I0 (m + 9)) n T0.2.1) W) ∨ (¬ (T0.2.2 = 3 ∧ 2 ≤ v0 ∧ v0 ≤ 70) ∧ r1 = 0 ∧ I1 = I0)) → Wd G yX12_readsFirst cX12_readsFirst 2 (some .boolean) 5 (C.2.1 + 0, C.2.2 + 0) (NI C (fun r I1 P1 L1 => ((r = 1 ∧ QEy m n (endN b n 0 A (I (m + 10))) I1) ∨ (r = 0 ∧ QEn m n (endN b n 0 A (I (m + 10))) I1)) ∧ (∀ x, x ≠ m → x ≠ m + 10 → x ≠ m + 11 → I1 x = I x) ∧ P = P1 ∧ L = L1)) 31 [some (.ref m), none] [.int (zI r1)] C I1 P L := by
    intro _ I0 I1 r1 hi0 k0 u0 o0 b0 hq1
    have hA := hF1 hi0
    have x0 : I0 (m + 10) = I (m + 10) := o0 _ (by omega) (by omega)
    rcases hq1 with ⟨a1, a2, a3, a4, a5⟩ | ⟨a1, a4, a5⟩
    · rw [b0, u0] at a5
      obtain ⟨k1, u1, o1⟩ := KR_of a5
      have g0 : I1 (m + 11) 0 = v0 := by rw [u1, up_s]
      have x1 : I1 (m + 10) = I (m + 10) := by rw [o1 _ (by omega) (by omega), x0]
      have hkm := kM_in (so := (tok b n T0.2.1).2.2) (by omega)
      have hkr : iR (kM (tok b n T0.2.1).2.2) := by omega
      rw [if_pos ⟨a1, a2, a3⟩] at hA
      refine r_istore_n (pc := 31) dX12_readsFirst_31 (by decide) ?_
      refine r_aload_n (pc := 32) dX12_readsFirst_32 rfl ?_
      refine r_getA (pc := 33) dX12_readsFirst_33 frX12_42 (by assumption) (by assumption) ?_
      refine r_iload_n (pc := 36) dX12_readsFirst_36 rfl ?_
      refine r_if_eq (pc := 37) 49 dX12_readsFirst_37 (by decide) (by omega) (fun h37 => ?_) (fun h37 => ?_)
      · exfalso; omega
      · skip
        refine r_aload_n (pc := 40) dX12_readsFirst_40 rfl ?_
        refine r_getA (pc := 41) dX12_readsFirst_41 frX12_45 (by assumption) (by assumption) ?_
        refine r_iconst (pc := 44) dX12_readsFirst_44 ?_
        refine r_iald (j := 0) (pc := 45) dX12_readsFirst_45 (by assumption) rfl (by omega) (by omega) ?_
        rw [g0]
        refine r_goto (pc := 46) 50 dX12_readsFirst_46 (by decide) ?_
        refine i_S2vx (pc := 50) okX12_begin staX12_begin q1033 dX12_readsFirst_50 (by decide) (Nat.le_of_ble_eq_true rfl) (sX12_begin) ?_
        try simp only [u2_I, uR_uR, uR_app, eq_self, Nat.reduceEqDiff, Nat.add_eq_left, Nat.left_eq_add, ↓reduceIte]
        refine r_iload_n (pc := 53) dX12_readsFirst_53 rfl ?_
        refine r_if_eq (pc := 54) 69 dX12_readsFirst_54 (by decide) (by omega) (fun h54 => ?_) (fun h54 => ?_)
        · exfalso; omega
        · skip
          refine r_aload_n (pc := 57) dX12_readsFirst_57 rfl ?_
          refine r_getI (pc := 58) dX12_readsFirst_58 frX12_257 (by assumption) ?_
          try simp only [u2_I, uR_uR, uR_app, eq_self, Nat.reduceEqDiff, Nat.add_eq_left, Nat.left_eq_add, ↓reduceIte]
          rw [k1.2.2.2.1]
          refine r_iconst (pc := 61) dX12_readsFirst_61 ?_
          refine r_icmp_ne (pc := 62) 69 dX12_readsFirst_62 (by decide) (by omega) (by omega) (fun h62 => ?_) (fun h62 => ?_)
          · skip
            refine r_iconst (pc := 69) dX12_readsFirst_69 ?_
            refine t_iret (pc := 70) dX12_readsFirst_70 rfl rfl ?_
            have hso1 : ¬ (tok b n T0.2.1).2.2 = 1 := fun z => h62 (hkm.2.2.2.2.2.mpr z)
            refine ⟨Or.inr ⟨rfl, ?_⟩, ?_, rfl, rfl⟩
            · rw [hA, endN_m rfl hso1]
              refine ⟨rfl, ?_, ?_⟩
              · rw [uR_n _ _ (by omega)]; exact k1.1
              · rw [uR_n _ _ (by omega)]; exact k1.2.1
            · intro x e1 e2 e3
              rw [uR_n _ _ e2, o1 _ e1 e3, o0 _ e1 e3]
          · skip
            refine r_iconst (pc := 65) dX12_readsFirst_65 ?_
            refine r_goto (pc := 66) 70 dX12_readsFirst_66 (by decide) ?_
            refine t_iret (pc := 70) dX12_readsFirst_70 rfl rfl ?_
            have hso1 := hkm.2.2.2.2.2.mp h62
            refine ⟨Or.inl ⟨rfl, ?_⟩, ?_, rfl, rfl⟩
            · rw [hA, endN_t rfl hso1]
              refine ⟨rfl, ⟨tok b n T0.2.1, tokV b n T0.2.1, ?_, rfl, t1.2.2.2.2.2.2 (by omega), t1.2.2.2.1⟩, ?_, ?_⟩
              · rw [uR_n _ _ (by omega)]; exact k1
              · rw [uR_s, x1]; rfl
              · rw [uR_n _ _ (by omega)]; exact u1
            · intro x e1 e2 e3
              rw [uR_n _ _ e2, o1 _ e1 e3, o0 _ e1 e3]
    · subst a5
      rw [if_neg a1] at hA
      refine r_istore_n (pc := 31) dX12_readsFirst_31 (by decide) ?_
      refine r_aload_n (pc := 32) dX12_readsFirst_32 rfl ?_
      refine r_getA (pc := 33) dX12_readsFirst_33 frX12_42 (by assumption) (by assumption) ?_
      refine r_iload_n (pc := 36) dX12_readsFirst_36 rfl ?_
      refine r_if_eq (pc := 37) 49 dX12_readsFirst_37 (by decide) (by omega) (fun h37 => ?_) (fun h37 => ?_)
      · skip
        refine r_iconst (pc := 49) dX12_readsFirst_49 ?_
        refine i_S2vx (pc := 50) okX12_begin staX12_begin q1033 dX12_readsFirst_50 (by decide) (Nat.le_of_ble_eq_true rfl) (sX12_begin) ?_
        try simp only [u2_I, uR_uR, uR_app, eq_self, Nat.reduceEqDiff, Nat.add_eq_left, Nat.left_eq_add, ↓reduceIte]
        refine r_iload_n (pc := 53) dX12_readsFirst_53 rfl ?_
        refine r_if_eq (pc := 54) 69 dX12_readsFirst_54 (by decide) (by omega) (fun h54 => ?_) (fun h54 => ?_)
        · skip
          refine r_iconst (pc := 69) dX12_readsFirst_69 ?_
          refine t_iret (pc := 70) dX12_readsFirst_70 rfl rfl ?_
          refine ⟨Or.inr ⟨rfl, ?_⟩, ?_, rfl, rfl⟩
          · rw [hA, endN_f rfl]
            refine ⟨rfl, ?_, ?_⟩
            · rw [uR_n _ _ (by omega)]; exact k0.1
            · rw [uR_n _ _ (by omega)]; exact k0.2.1
          · intro x e1 e2 e3
            rw [uR_n _ _ e2, o0 _ e1 e3]
        · exfalso; omega
      · exfalso; omega
  refine r_aload_n (pc := 0) dX12_readsFirst_0 rfl ?_
  refine r_bipush (pc := 1) dX12_readsFirst_1 (by decide) ?_
  refine r_bipush (pc := 3) dX12_readsFirst_3 (by decide) ?_
  refine r_bipush (pc := 5) dX12_readsFirst_5 (by decide) ?_
  refine r_bipush (pc := 7) dX12_readsFirst_7 (by decide) ?_
  refine r_iconst (pc := 9) dX12_readsFirst_9 ?_
  refine r_iconst (pc := 10) dX12_readsFirst_10 ?_
  refine i_V6ix (pc := 11) okX12_isName inX12_isName selX12_isName q1414 dX12_readsFirst_11 (by assumption) rfl (by decide) (Nat.le_of_ble_eq_true rfl) (sX12_isName (T := T) (v := v) (hbb := by rw [← hb]; exact hbb)) ?_
  rw [← hb]
  refine r_if_ne (pc := 14) 19 dX12_readsFirst_14 (by decide) (by first | omega | (split <;> decide)) (fun h14 => ?_) (fun h14 => ?_)
  · skip
    have hi0 : it = 0 := q0.mp (wt h14)
    have hA := hF1 hi0
    refine r_aload_n (pc := 19) dX12_readsFirst_19 rfl ?_
    refine i_V0vg (pc := 20) okX12_goOn inX12_goOn selX12_goOn q1418 dX12_readsFirst_20 (by assumption) rfl (by decide) (Nat.le_of_ble_eq_true rfl) (sX12_goOn (n := n) (T := T) (v := v) (hbb := by rw [← hb]; exact hbb)) (fun I0 P0 L0 hq0 => ?_)
    rw [← hb, hT0, hV0] at hq0
    obtain ⟨⟨k0, u0, o0⟩, rfl, rfl⟩ := KR_ofK hq0
    have b0 : I0 (m + 9) = b := by rw [o0 _ (by omega) (by omega)]; exact hb.symm
    try simp only [u2_I, uR_uR, uR_app, eq_self, Nat.reduceEqDiff, Nat.add_eq_left, Nat.left_eq_add, ↓reduceIte]
    refine r_aload_n (pc := 23) dX12_readsFirst_23 rfl ?_
    refine r_iconst (pc := 24) dX12_readsFirst_24 ?_
    refine r_iconst (pc := 25) dX12_readsFirst_25 ?_
    refine r_bipush (pc := 26) dX12_readsFirst_26 (by decide) ?_
    refine i_V3ig (pc := 28) okX12_takes inX12_takes selX12_takes q1422 dX12_readsFirst_28 (by assumption) rfl (by decide) (Nat.le_of_ble_eq_true rfl) (sX12_takes (k := 0) (n := n) (T := T0) (v := v0) (hT := k0) (hbb := by rw [b0]; exact hbb)) (fun r1 I1 P1 L1 hq1 => ?_)
    obtain ⟨hq1, rfl, rfl⟩ := hq1
    have hr1 : iR r1 := by rcases hq1 with ⟨-, -, -, q, -⟩ | ⟨-, q, -⟩ <;> rw [q] <;> decide
    try simp only [u2_I, uR_uR, uR_app, eq_self, Nat.reduceEqDiff, Nat.add_eq_left, Nat.left_eq_add, ↓reduceIte]
    exact mid () I0 I1 r1 hi0 k0 u0 o0 b0 hq1
  · skip
    have hi0 : ¬ it = 0 := fun z => wf h14 (q0.mpr z)
    have hA := hF0 hi0
    refine r_iconst (pc := 17) dX12_readsFirst_17 ?_
    refine t_iret (pc := 18) dX12_readsFirst_18 rfl rfl ?_
    refine ⟨Or.inr ⟨rfl, ?_⟩, fun _ _ _ _ => rfl, rfl, rfl⟩
    rw [hA, endN_f rfl]
    exact ⟨rfl, hT.1, hT.2.1⟩
end REF17

