/-! the reference: the fewest payments -/
def sumN (net : Nat → Int) (s : Nat) : Nat → Int
  | 0 => 0
  | k + 1 => sumN net s k + (if s.testBit k = true then net k else 0)
theorem sumN_in {net : Nat → Int} {s n : Nat} (h : ∀ f, f < n → -320000 ≤ net f ∧ net f ≤ 320000) : ∀ k, k ≤ n → -(320000 * (k : Int)) ≤ sumN net s k ∧ sumN net s k ≤ 320000 * (k : Int) := by
  intro k
  induction k with
  | zero => intro _; exact ⟨by simp [sumN], by simp [sumN]⟩
  | succ k ih =>
    intro hk
    have h1 := ih (by omega)
    have h2 := h k (by omega)
    have e : sumN net s (k + 1) = sumN net s k + (if s.testBit k = true then net k else 0) := rfl
    rw [e]
    split <;> omega
section REF19
variable {G : WG} {C : CF} {I : MI} {P : MP} {L : ML} {m n : Nat} {Y : Int}
theorem sX12_sumOf {s n : Nat} {x : Int} (hm : RfL G C P m := by assumption) (hn : I (m + 1) 6 = (n : Int) := by assumption) (hn6 : n ≤ 6 := by omega) (hN : ∀ f, f < n → -320000 ≤ I (m + 7) f ∧ I (m + 7) f ≤ 320000 := by assumption) (hx : x = (s : Int) := by first | rfl | omega) (hs : s < 64 := by omega) : SX12_sumOf G [.ref m, .int (zI x)] C I P L (NI C (XI (sumN (I (m + 7)) s n) I P L)) := by
  obtain ⟨hBm, hKm, hK1, hK2, hK3, hK4, hK5, hK6, hK7, hK8, hK9, hK10, hK11, hP0, hP1, hP2, hP3, hP6, hP7, hP8, hP9, hP10, hP16, hP17⟩ := id hm
  subst hx
  refine en_I (by decide +kernel) (Nat.le_of_ble_eq_true rfl) ?_
  change Wd _ _ _ _ _ _ _ _ 0 [some _, some _, none, none] [] _ _ _ _
  have loop : ∀ (d f : Nat) (i : Int) (a : Int), f + d = n → i = (f : Int) → a = sumN (I (m + 7)) s f → Wd G yX12_sumOf cX12_sumOf 4 (some .int) 1 (C.2.1 + 0, C.2.2 + 0) (NI C (XI (sumN (I (m + 7)) s n) I P L)) 4 [some (.ref m), some (.int (zI (s : Int))), some (.int (zI a)), some (.int (zI i))] [] C I P L := by
    intro d
    induction d with
    | zero =>
      intro f i a hd hi ha
      have hsi := sumN_in (s := s) hN f (by omega)
      refine r_iload_n (pc := 4) dX12_sumOf_4 rfl ?_
      refine r_aload_n (pc := 5) dX12_sumOf_5 rfl ?_
      refine i_V0ix (pc := 6) okX12_families inX12_families selX12_families q1118 dX12_sumOf_6 (by assumption) rfl (by decide) (Nat.le_of_ble_eq_true rfl) (sX12_families) ?_
      refine r_icmp_ge (pc := 9) 40 dX12_sumOf_9 (by decide) (by omega) (by omega) (fun h9 => ?_) (fun h9 => ?_)
      · skip
        refine r_iload_n (pc := 40) dX12_sumOf_40 rfl ?_
        refine t_iret (pc := 41) dX12_sumOf_41 rfl rfl ?_
        rw [ha, show f = n by omega]
        exact ⟨rfl, rfl, rfl, rfl⟩
      · exfalso; omega
    | succ d ih =>
      intro f i a hd hi ha
      have hsi := sumN_in (s := s) hN f (by omega)
      have hNf := hN f (by omega)
      have hbit : b_and (b_shr (s : Int) i) 1 = if s.testBit f then 1 else 0 := by rw [hi]; exact b_bit (by omega) (by omega)
      have e : sumN (I (m + 7)) s (f + 1) = sumN (I (m + 7)) s f + (if s.testBit f = true then I (m + 7) f else 0) := rfl
      refine r_iload_n (pc := 4) dX12_sumOf_4 rfl ?_
      refine r_aload_n (pc := 5) dX12_sumOf_5 rfl ?_
      refine i_V0ix (pc := 6) okX12_families inX12_families selX12_families q1118 dX12_sumOf_6 (by assumption) rfl (by decide) (Nat.le_of_ble_eq_true rfl) (sX12_families) ?_
      refine r_icmp_ge (pc := 9) 40 dX12_sumOf_9 (by decide) (by first | omega | (split <;> decide)) (by first | omega | (split <;> decide)) (fun h9 => ?_) (fun h9 => ?_)
      · exfalso; omega
      · skip
        refine r_iload_n (pc := 12) dX12_sumOf_12 rfl ?_
        refine r_iload_n (pc := 13) dX12_sumOf_13 rfl ?_
        refine r_iload_n (pc := 14) dX12_sumOf_14 rfl ?_
        refine r_ishr (pc := 15) dX12_sumOf_15 ?_
        refine r_iconst (pc := 16) dX12_sumOf_16 ?_
        refine r_iand (pc := 17) dX12_sumOf_17 ?_
        refine r_iconst (pc := 18) dX12_sumOf_18 ?_
        rw [hbit]
        refine r_icmp_ne (pc := 19) 31 dX12_sumOf_19 (by decide) (by first | omega | (split <;> decide)) (by first | omega | (split <;> decide)) (fun h19 => ?_) (fun h19 => ?_)
        · skip
          refine r_iconst (pc := 31) dX12_sumOf_31 ?_
          refine r_iadd (pc := 32) dX12_sumOf_32 ?_
          refine r_istore_n (pc := 33) dX12_sumOf_33 (by decide) ?_
          refine r_iinc (pc := 34) dX12_sumOf_34 rfl ?_
          refine r_goto (pc := 37) 4 dX12_sumOf_37 (by decide) ?_
          refine ih (f + 1) _ _ (by omega) (by omega) ?_
          rw [e, if_neg (fun z => h19 (by rw [if_pos z])), ha]
        · skip
          refine r_aload_n (pc := 22) dX12_sumOf_22 rfl ?_
          refine r_getA (pc := 23) dX12_sumOf_23 frX12_33 (by assumption) (by assumption) ?_
          refine r_iload_n (pc := 26) dX12_sumOf_26 rfl ?_
          refine r_iald (j := f) (pc := 27) dX12_sumOf_27 (by assumption) (by omega) (by first | omega | (split <;> decide)) (by omega) ?_
          refine r_goto (pc := 28) 32 dX12_sumOf_28 (by decide) ?_
          refine r_iadd (pc := 32) dX12_sumOf_32 ?_
          refine r_istore_n (pc := 33) dX12_sumOf_33 (by decide) ?_
          refine r_iinc (pc := 34) dX12_sumOf_34 rfl ?_
          refine r_goto (pc := 37) 4 dX12_sumOf_37 (by decide) ?_
          refine ih (f + 1) _ _ (by omega) (by omega) ?_
          have hb : s.testBit f = true := by
            cases hh : s.testBit f with
            | true => rfl
            | false => rw [hh] at h19; exact absurd h19 (by decide)
          rw [e, if_pos hb, ha]
  refine r_iconst (pc := 0) dX12_sumOf_0 ?_
  refine r_istore_n (pc := 1) dX12_sumOf_1 (by decide) ?_
  refine r_iconst (pc := 2) dX12_sumOf_2 ?_
  refine r_istore_n (pc := 3) dX12_sumOf_3 (by decide) ?_
  exact loop n 0 _ _ (by omega) rfl rfl
end REF19

