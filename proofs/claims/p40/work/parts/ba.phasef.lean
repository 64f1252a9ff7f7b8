/-! phase F: debts, nets, payments, lots -/
def AtD (G : WG) (C : CF) (R : LSt × LSt × (Nat → Int) × Int × Int × Int × Int × Int × Int × Int) (T : Nat → Int) (nf k : Nat) (Y : Int) (I : MI) (P : MP) (L : ML) : Prop := AtS G C R T Y I P L ∧ (rdY G I L).1.2.1 33 = (k : Int) ∧ (rdY G I L).1.2.2.2.1 = 0 ∧ ∀ j, j < k → (0 ≤ (rdY G I L).1.2.1 (34 + 3 * j) ∧ (rdY G I L).1.2.1 (34 + 3 * j) < (nf : Int)) ∧ 0 ≤ (rdY G I L).1.2.1 (35 + 3 * j) ∧ (rdY G I L).1.2.1 (35 + 3 * j) < (nf : Int)
section DEBTS
variable {G : WG} {C : CF} {R : LSt × LSt × (Nat → Int) × Int × Int × Int × Int × Int × Int × Int} {T : Nat → Int} {Y r : Int} {I I1 : MI} {P P1 : MP} {L L1 : ML} {nf k : Nat}
theorem at_debt {x y v : Int} (h : AtD G C R T nf k Y I P L) (hk : k < 8) (hT6 : T 6 = (nf : Int)) (hx : 0 ≤ x ∧ x < (nf : Int)) (hy : 0 ≤ y ∧ y < (nf : Int)) (hxy : x ≠ y) (hv : 1 ≤ v ∧ v ≤ 999) (hq : QY G (debtS (rdY G I L) x y v).1 (debtS (rdY G I L) x y v).2 Y C r I1 P1 L1) : r = (k : Int) ∧ AtD G C R T nf (k + 1) Y I1 P1 L1 := by
  obtain ⟨hA, h1, h2, h3⟩ := h
  obtain ⟨q1, q2, q3⟩ := hq
  have h6 := hA.lo (k := 6) (by omega)
  have e : debtS (rdY G I L) x y v = ((rdY G I L).1.2.1 33, yLu (rdY G I L) (lBk (rdY G I L).1 (debtB (rdY G I L).1.2.1 k x y v))) := by
    unfold debtS
    rw [if_pos ⟨⟨by omega, by omega, hxy⟩, hv⟩, if_pos (by omega), show ((rdY G I L).1.2.1 33).toNat = k by omega]
  rw [e] at q1 q2
  have hv2 : ∀ j, debtB (rdY G I L).1.2.1 k x y v j = if j = 33 then (k : Int) + 1 else if j = 36 + 3 * k then v else if j = 35 + 3 * k then y else if j = 34 + 3 * k then x else (rdY G I L).1.2.1 j := fun j => rfl
  refine ⟨q1.trans h1, ⟨q3, by rw [q2]; exact hA.2.1, by rw [q2]; exact hA.2.2⟩, ?_, by rw [q2]; exact h2, fun j hj => ?_⟩
  · rw [q2]
    show debtB (rdY G I L).1.2.1 k x y v 33 = _
    rw [hv2, if_pos rfl]; omega
  · rw [q2]
    show (0 ≤ debtB (rdY G I L).1.2.1 k x y v (34 + 3 * j) ∧ debtB (rdY G I L).1.2.1 k x y v (34 + 3 * j) < (nf : Int)) ∧ 0 ≤ debtB (rdY G I L).1.2.1 k x y v (35 + 3 * j) ∧ debtB (rdY G I L).1.2.1 k x y v (35 + 3 * j) < (nf : Int)
    rw [hv2, hv2]
    by_cases hjk : j = k
    · subst hjk
      rw [if_neg (by omega), if_neg (by omega), if_neg (by omega), if_pos rfl, if_neg (by omega), if_neg (by omega), if_pos rfl]
      exact ⟨hx, hy⟩
    · rw [if_neg (by omega), if_neg (by omega), if_neg (by omega), if_neg (by omega), if_neg (by omega), if_neg (by omega), if_neg (by omega), if_neg (by omega)]
      exact h3 j (by omega)
theorem at_net {S : YS} {f : Nat} {x : Int} (hS : rdY G I L = S) (hx : x = (f : Int)) (hf : (f : Int) < S.1.1 6) (hq : QY G (netS (rdY G I L) x).1 (netS (rdY G I L) x).2 Y C r I1 P1 L1) : r = netF S.1.2.1 (awayF S.1.1) f ∧ YI G C I1 P1 Y ∧ rdY G I1 L1 = S := by
  subst hx
  rw [hS] at hq
  obtain ⟨q1, q2, q3⟩ := hq
  have e : netS S (f : Int) = (balB S.1.2.1 (awayF S.1.1) (f : Int) (S.1.2.1 33).toNat, S) := if_pos (by omega)
  rw [e] at q1 q2
  exact ⟨q1, q3, q2⟩
theorem away_in {F : Nat → Int} {Y : Int} (h : FI F Y) : 0 ≤ awayF F ∧ awayF F ≤ 69 := by
  have h0 := h.1
  have h1 := Int.emod_nonneg (F 1) (show F 0 ≠ 0 by omega)
  have h2 := Int.emod_lt_of_pos (F 1) (show 0 < F 0 by omega)
  unfold awayF
  omega
theorem net_in (hy : YI G C I P Y) (f : Nat) : -320000 ≤ netF (rdY G I L).1.2.1 (awayF (rdY G I L).1.1) f ∧ netF (rdY G I L).1.2.1 (awayF (rdY G I L).1.1) f ≤ 320000 := by
  have hF : FI (rdY G I L).1.1 Y := hy.2.1.1.1
  have hB : BI (rdY G I L).1.2.1 := hy.2.1.1.2.1
  have h33 := hB.2.1
  have h := balB_in hB (away_in hF) (f : Int) ((rdY G I L).1.2.1 33).toNat (by omega)
  unfold netF
  omega
theorem at_lots {S : YS} {x : Int} (hS : rdY G I L = S) (hn : nf ≤ 6) (h6 : S.1.1 6 = (nf : Int)) (hx : 0 ≤ x ∧ x ≤ 999999) (hq : QY G (lotsS (rdY G I L) x (nf : Int)).1 (lotsS (rdY G I L) x (nf : Int)).2 Y C r I1 P1 L1) : r = ((2 ^ nf - 1 : Nat) : Int) ∧ YI G C I1 P1 Y ∧ rdY G I1 L1 = S := by
  rw [hS] at hq
  obtain ⟨q1, q2, q3⟩ := hq
  have hz : sizeF S.1.1 = nf := by unfold sizeF; omega
  have e : lotsS S x (nf : Int) = ((lotF x nf nf : Int), S) := by
    unfold lotsS
    rw [if_pos ⟨hx, by omega⟩, hz, Int.toNat_natCast]
  rw [e] at q1 q2
  refine ⟨?_, q3, q2⟩
  rw [q1]
  show ((lotF x nf nf : Nat) : Int) = _
  rw [lot_all x hn]
theorem sumN_in {w : Nat → Int} {B : Int} (h : ∀ f, -B ≤ w f ∧ w f ≤ B) : ∀ k : Nat, -(B * (k : Int)) ≤ sumN w k ∧ sumN w k ≤ B * (k : Int) := by
  intro k
  induction k with
  | zero => show -(B * ((0 : Nat) : Int)) ≤ 0 ∧ 0 ≤ B * ((0 : Nat) : Int); simp
  | succ k ih =>
    have h1 := h k
    show -(B * ((k + 1 : Nat) : Int)) ≤ sumN w k + w k ∧ sumN w k + w k ≤ B * ((k + 1 : Nat) : Int)
    rw [show B * ((k + 1 : Nat) : Int) = B * (k : Int) + B by rw [Int.natCast_succ, Int.mul_add, Int.mul_one]]
    omega
theorem other_ne {a u : Int} (hn : 2 ≤ nf ∧ nf ≤ 6) (ha : 0 ≤ a ∧ a < (nf : Int)) (hu : 0 ≤ u ∧ u < (nf : Int) - 1) : (0 ≤ (a + 1 + u) % (nf : Int) ∧ (a + 1 + u) % (nf : Int) < (nf : Int)) ∧ a ≠ (a + 1 + u) % (nf : Int) := by
  rcases (show nf = 2 ∨ nf = 3 ∨ nf = 4 ∨ nf = 5 ∨ nf = 6 by omega) with rfl | rfl | rfl | rfl | rfl <;> omega
end DEBTS
theorem ph_f {G : WG} {nm : String} {b Ln nf m : Nat} {K1 K : Nat → Option Kd} {n : Nat × Nat} {Z : Nat × Nat} {Q : Post} {sx : Nat → Int} {Is : MI} {Ps : MP} {Ls : ML} {T : Nat → Int} {R : LSt × LSt × (Nat → Int) × Int × Int × Int × Int × Int × Int × Int} {Y fi he te : Int} {Ic : MI} {Pc : MP} {Lc : ML} (hX : LC b Ln K1 K sx Is) (hnf : nf ≤ 6) (hT6 : T 6 = (nf : Int)) (hA : AtS G (K1, n) R T Y Ic Pc Lc) (hB : NoB G Ic Lc) (hY : 0 ≤ Y ∧ Y ≤ 10000) (hN : ∀ (Ic : MI) (Pc : MP) (Lc : ML), AtS G (K1, n) R T Y Ic Pc Lc → (rdY G Ic Lc).1.2.2.2.1 = 0 → WJ G nm b nf m fi he te K1 K n Z Q Is Ps Ls 811 Ic Pc Lc) : WJ G nm b nf m fi he te K1 K n Z Q Is Ps Ls 598 Ic Pc Lc := by
  unfold WJ at hN ⊢
  obtain ⟨hs1, hKb, hL, hsc⟩ := hX
  have h64 : 2 ^ nf ≤ 64 := Nat.pow_le_pow_right (by decide) hnf
  have h1p : 1 ≤ 2 ^ nf := Nat.one_le_two_pow
  obtain ⟨M, hM⟩ : ∃ M : Nat, 2 ^ nf = M := ⟨_, rfl⟩
  rw [hM] at h64 h1p
  have st698 : ∀ (D : Nat) (k : Int) (x12 x13 : Option Value) (Ic : MI) (Pc : MP) (Lc : ML), D ≤ 8 → AtD G (K1, n) R T nf D Y Ic Pc Lc → Wd G ⟨RL, nm, "([I)Z"⟩ cL_law 17 (some .boolean) 48 Z Q 698 [some (.ref b), some (.ref (gB G)), some (.int (zI (nf : Int))), some (.int (zI (m : Int))), some (.int (zI fi)), some (.int (zI he)), some (.int (zI te)), none, none, none, some (.int (zI (D : Int))), some (.int (zI k)), x12, x13, none, none, none] [] (K, n) (mg K1 Ic Is) (mg K1 Pc Ps) (mg K1 Lc Ls) := by
    intro D k x12 x13 Ic Pc Lc hD8 hD
    obtain ⟨hA, hD1, hD2, hD3⟩ := hD
    have h6 := hA.lo (k := 6) (by omega)
    rw [hT6] at h6
    have hz : sizeF (rdY G Ic Lc).1.1 = nf := by unfold sizeF; omega
    have hni := fun f => net_in (L := Lc) hA.1 f
    have hnz : sumN (netF (rdY G Ic Lc).1.2.1 (awayF (rdY G Ic Lc).1.1)) nf = 0 := net_zero ((rdY G Ic Lc).1.2.1 33).toNat (fun j hj => hD3 j (by omega))
    have hpay := payL_in (F := (rdY G Ic Lc).1.1) (B := (rdY G Ic Lc).1.2.1) (by omega) (by rw [hz]; exact hnz)
    rw [hz] at hpay
    have hAs : ∀ (I1 : MI) (P1 : MP) (L1 : ML), YI G (K1, n) I1 P1 Y → rdY G I1 L1 = rdY G Ic Lc → AtS G (K1, n) R T Y I1 P1 L1 ∧ (rdY G I1 L1).1.2.2.2.1 = 0 := fun I1 P1 L1 y1 s1 => ⟨at_same hA s1 y1, by rw [s1]; exact hD2⟩
    have hcl : (sizeF (rdY G Ic Lc).1.1 : Int) = (nf : Int) := by rw [hz]
    have hS0 : rdY G Ic Lc = rdY G Ic Lc := rfl
    have hy0 := hA.1
    generalize hSS : rdY G Ic Lc = S at h6 hni hnz hpay hAs hS0
    clear hA hD3 hz hcl
    generalize hNF : netF S.1.2.1 (awayF S.1.1) = NF at hni hnz hpay
    generalize hPF : payF S.1.1 S.1.2.1 = PF at hpay
    have hul := unl_in NF nf
    have st749 : ∀ (w u j : Int) (Ic : MI) (Pc : MP) (Lc : ML), w = 0 → u = sumN (unl NF) nf → YI G (K1, n) Ic Pc Y → rdY G Ic Lc = S → Wd G ⟨RL, nm, "([I)Z"⟩ cL_law 17 (some .boolean) 48 Z Q 749 [some (.ref b), some (.ref (gB G)), some (.int (zI (nf : Int))), some (.int (zI (m : Int))), some (.int (zI fi)), some (.int (zI he)), some (.int (zI te)), none, none, none, some (.int (zI (D : Int))), some (.int (zI w)), some (.int (zI u)), some (.int (zI j)), none, none, none] [] (K, n) (mg K1 Ic Is) (mg K1 Pc Ps) (mg K1 Lc Ls) := by
      intro w u j Ic Pc Lc hw hu hy hS
      have u24 := upV_in (cellV sx Ln 24) (m := 1000000) (by decide)
      rw [← hu] at hpay hul
      refine r_aload_n (pc := 749) dL_law_749 rfl ?_
      refine i_V0if (pc := 750) okX11_cleared inX11_cleared selX11_cleared q631 dL_law_750 (sub_m hs1 _ _ _ _ _ _) (by exact hy.1.1) rfl (by decide) (Nat.le_of_ble_eq_true rfl) (sX11_cleared (G := G) (C := (K1, n)) (I := Ic) (P := Pc) (L := Lc) (h := hy)) (fun r1 I1 P1 L1 hq => ?_)
      dsimp only
      obtain ⟨e1, s1, y1⟩ := hq
      rw [hS] at e1 s1
      rw [hPF] at e1
      rw [mg_mg, mg_mg, mg_mg]
      refine r_istore (pc := 753) dL_law_753 (by decide) ?_
      refine r_iload (pc := 755) dL_law_755 rfl ?_
      refine r_if_ne (pc := 757) 809 dL_law_757 (by decide) (by omega) (fun h757 => ?_) (fun h757 => ?_)
      · exfalso; omega
      · skip
        refine r_iload (pc := 760) dL_law_760 rfl ?_
        refine r_iload (pc := 762) dL_law_762 rfl ?_
        refine r_iconst (pc := 764) dL_law_764 ?_
        refine r_iadd (pc := 765) dL_law_765 ?_
        refine r_iconst (pc := 766) dL_law_766 ?_
        refine r_idiv (pc := 767) dL_law_767 (by omega) (by omega) (by omega) (by omega) ?_
        refine r_icmp_lt (pc := 768) 809 dL_law_768 (by decide) (by omega) (by omega) (fun h768 => ?_) (fun h768 => ?_)
        · exfalso; omega
        · skip
          refine r_iload (pc := 771) dL_law_771 rfl ?_
          refine r_if_le (pc := 773) 785 dL_law_773 (by decide) (by omega) (fun h773 => ?_) (fun h773 => ?_)
          · skip
            refine r_aload_n (pc := 785) dL_law_785 rfl ?_
            refine r_aload_n (pc := 786) dL_law_786 rfl ?_
            refine r_bipush (pc := 787) dL_law_787 (by decide) ?_
            refine i_S2ix (pc := 789) okL_cell staL_cell q692 dL_law_789 (by decide) (Nat.le_of_ble_eq_true rfl) (sL_cell (k := 24) hKb (hsc _)) ?_
            refine r_ldc (v := (1000000 : Int)) (pc := 792) dL_law_792 kcL_97 ?_
            refine i_S2ix (pc := 794) okL_up staL_up q696 dL_law_794 (by decide) (Nat.le_of_ble_eq_true rfl) (sL_up) ?_
            refine r_iload_n (pc := 797) dL_law_797 rfl ?_
            refine i_V2if (pc := 798) okX11_lots inX11_lots selX11_lots q650 dL_law_798 (sub_m hs1 _ _ _ _ _ _) (by exact y1.1.1) rfl (by decide) (Nat.le_of_ble_eq_true rfl) (sX11_lots (G := G) (C := (K1, n)) (I := I1) (P := P1) (L := L1) (h := y1)) (fun r2 I2 P2 L2 hq2 => ?_)
            dsimp only
            obtain ⟨e2, y2, s2⟩ := at_lots s1 hnf h6 (by omega) hq2
            rw [hM] at e2
            rw [mg_mg, mg_mg, mg_mg]
            refine r_iconst (pc := 801) dL_law_801 ?_
            refine r_iload_n (pc := 802) dL_law_802 rfl ?_
            refine r_ishl (pc := 803) dL_law_803 ?_
            rw [b_shl1 (by omega), hM]
            refine r_iconst (pc := 804) dL_law_804 ?_
            refine r_isub (pc := 805) dL_law_805 ?_
            refine r_icmp_eq (pc := 806) 811 dL_law_806 (by decide) (by omega) (by omega) (fun h806 => ?_) (fun h806 => ?_)
            · skip
              exact wd_f7 (hN I2 P2 L2 (hAs I2 P2 L2 y2 s2).1 (hAs I2 P2 L2 y2 s2).2)
            · exfalso; omega
          · skip
            refine r_iload (pc := 776) dL_law_776 rfl ?_
            refine r_iload (pc := 778) dL_law_778 rfl ?_
            refine r_iconst (pc := 780) dL_law_780 ?_
            refine r_isub (pc := 781) dL_law_781 ?_
            refine r_icmp_gt (pc := 782) 809 dL_law_782 (by decide) (by omega) (by omega) (fun h782 => ?_) (fun h782 => ?_)
            · exfalso; have := hpay.2.2.2 (by omega); omega
            · skip
              refine r_aload_n (pc := 785) dL_law_785 rfl ?_
              refine r_aload_n (pc := 786) dL_law_786 rfl ?_
              refine r_bipush (pc := 787) dL_law_787 (by decide) ?_
              refine i_S2ix (pc := 789) okL_cell staL_cell q692 dL_law_789 (by decide) (Nat.le_of_ble_eq_true rfl) (sL_cell (k := 24) hKb (hsc _)) ?_
              refine r_ldc (v := (1000000 : Int)) (pc := 792) dL_law_792 kcL_97 ?_
              refine i_S2ix (pc := 794) okL_up staL_up q696 dL_law_794 (by decide) (Nat.le_of_ble_eq_true rfl) (sL_up) ?_
              refine r_iload_n (pc := 797) dL_law_797 rfl ?_
              refine i_V2if (pc := 798) okX11_lots inX11_lots selX11_lots q650 dL_law_798 (sub_m hs1 _ _ _ _ _ _) (by exact y1.1.1) rfl (by decide) (Nat.le_of_ble_eq_true rfl) (sX11_lots (G := G) (C := (K1, n)) (I := I1) (P := P1) (L := L1) (h := y1)) (fun r2 I2 P2 L2 hq2 => ?_)
              dsimp only
              obtain ⟨e2, y2, s2⟩ := at_lots s1 hnf h6 (by omega) hq2
              rw [hM] at e2
              rw [mg_mg, mg_mg, mg_mg]
              refine r_iconst (pc := 801) dL_law_801 ?_
              refine r_iload_n (pc := 802) dL_law_802 rfl ?_
              refine r_ishl (pc := 803) dL_law_803 ?_
              rw [b_shl1 (by omega), hM]
              refine r_iconst (pc := 804) dL_law_804 ?_
              refine r_isub (pc := 805) dL_law_805 ?_
              refine r_icmp_eq (pc := 806) 811 dL_law_806 (by decide) (by omega) (by omega) (fun h806 => ?_) (fun h806 => ?_)
              · skip
                exact wd_f7 (hN I2 P2 L2 (hAs I2 P2 L2 y2 s2).1 (hAs I2 P2 L2 y2 s2).2)
              · exfalso; omega
    have st707 : ∀ (d f : Nat) (w u j : Int) (Ic : MI) (Pc : MP) (Lc : ML), f + d = nf → j = (f : Int) → w = sumN NF f → u = sumN (unl NF) f → YI G (K1, n) Ic Pc Y → rdY G Ic Lc = S → Wd G ⟨RL, nm, "([I)Z"⟩ cL_law 17 (some .boolean) 48 Z Q 707 [some (.ref b), some (.ref (gB G)), some (.int (zI (nf : Int))), some (.int (zI (m : Int))), some (.int (zI fi)), some (.int (zI he)), some (.int (zI te)), none, none, none, some (.int (zI (D : Int))), some (.int (zI w)), some (.int (zI u)), some (.int (zI j)), none, none, none] [] (K, n) (mg K1 Ic Is) (mg K1 Pc Ps) (mg K1 Lc Ls) := by
      intro d
      induction d with
      | zero =>
        intro f w u j Ic Pc Lc hd hj hw hu hy hS
        obtain rfl : f = nf := by omega
        refine r_iload (pc := 707) dL_law_707 rfl ?_
        refine r_iload_n (pc := 709) dL_law_709 rfl ?_
        refine r_icmp_ge (pc := 710) 749 dL_law_710 (by decide) (by omega) (by omega) (fun h710 => ?_) (fun h710 => ?_)
        · skip
          exact st749 _ _ _ Ic Pc Lc (by rw [hw]; exact hnz) hu hy hS
        · exfalso; omega
      | succ d ih =>
        intro f w u j Ic Pc Lc hd hj hw hu hy hS
        have hb := hni f
        have hwr := sumN_in (w := NF) (B := 320000) hni f
        have hur := unl_in NF f
        have hw2 : sumN NF (f + 1) = sumN NF f + NF f := rfl
        have hu2 : sumN (unl NF) (f + 1) = sumN (unl NF) f + unl NF f := rfl
        refine r_iload (pc := 707) dL_law_707 rfl ?_
        refine r_iload_n (pc := 709) dL_law_709 rfl ?_
        refine r_icmp_ge (pc := 710) 749 dL_law_710 (by decide) (by omega) (by omega) (fun h710 => ?_) (fun h710 => ?_)
        · exfalso; omega
        · skip
          refine r_iload (pc := 713) dL_law_713 rfl ?_
          refine r_aload_n (pc := 715) dL_law_715 rfl ?_
          refine r_iload (pc := 716) dL_law_716 rfl ?_
          refine i_V1if (pc := 718) okX11_net inX11_net selX11_net q617 dL_law_718 (sub_m hs1 _ _ _ _ _ _) (by exact hy.1.1) rfl (by decide) (Nat.le_of_ble_eq_true rfl) (sX11_net (G := G) (C := (K1, n)) (I := Ic) (P := Pc) (L := Lc) (h := hy)) (fun r1 I1 P1 L1 hq => ?_)
          dsimp only
          obtain ⟨e1, y1, s1⟩ := at_net (f := f) hS hj (by omega) hq
          rw [hNF] at e1
          rw [mg_mg, mg_mg, mg_mg]
          refine r_iadd (pc := 721) dL_law_721 ?_
          refine r_istore (pc := 722) dL_law_722 (by decide) ?_
          refine r_iload (pc := 724) dL_law_724 rfl ?_
          refine r_aload_n (pc := 726) dL_law_726 rfl ?_
          refine r_iload (pc := 727) dL_law_727 rfl ?_
          refine i_V1if (pc := 729) okX11_net inX11_net selX11_net q617 dL_law_729 (sub_m hs1 _ _ _ _ _ _) (by exact y1.1.1) rfl (by decide) (Nat.le_of_ble_eq_true rfl) (sX11_net (G := G) (C := (K1, n)) (I := I1) (P := P1) (L := L1) (h := y1)) (fun r2 I2 P2 L2 hq2 => ?_)
          dsimp only
          obtain ⟨e2, y2, s2⟩ := at_net (f := f) s1 hj (by omega) hq2
          rw [hNF] at e2
          rw [mg_mg, mg_mg, mg_mg]
          refine r_if_eq (pc := 732) 739 dL_law_732 (by decide) (by omega) (fun h732 => ?_) (fun h732 => ?_)
          · skip
            refine r_iconst (pc := 739) dL_law_739 ?_
            refine r_iadd (pc := 740) dL_law_740 ?_
            refine r_istore (pc := 741) dL_law_741 (by decide) ?_
            refine r_iinc (pc := 743) dL_law_743 rfl ?_
            refine r_goto (pc := 746) 707 dL_law_746 (by decide) ?_
            exact ih (f + 1) _ _ _ I2 P2 L2 (by omega) (by omega) (by omega) (by rw [hu2, show unl NF f = 0 from if_pos (by omega)]; omega) y2 s2
          · skip
            refine r_iconst (pc := 735) dL_law_735 ?_
            refine r_goto (pc := 736) 740 dL_law_736 (by decide) ?_
            refine r_iadd (pc := 740) dL_law_740 ?_
            refine r_istore (pc := 741) dL_law_741 (by decide) ?_
            refine r_iinc (pc := 743) dL_law_743 rfl ?_
            refine r_goto (pc := 746) 707 dL_law_746 (by decide) ?_
            exact ih (f + 1) _ _ _ I2 P2 L2 (by omega) (by omega) (by omega) (by rw [hu2, show unl NF f = 1 from if_neg (by omega)]; omega) y2 s2
    refine r_iconst (pc := 698) dL_law_698 ?_
    refine r_istore (pc := 699) dL_law_699 (by decide) ?_
    refine r_iconst (pc := 701) dL_law_701 ?_
    refine r_istore (pc := 702) dL_law_702 (by decide) ?_
    refine r_iconst (pc := 704) dL_law_704 ?_
    refine r_istore (pc := 705) dL_law_705 (by decide) ?_
    exact st707 nf 0 _ _ _ Ic Pc Lc (by omega) rfl rfl rfl hy0 hSS
  have st623 : ∀ (D : Nat), D ≤ 8 → (nf < 2 → D = 0) → ∀ (d k : Nat) (i : Int) (x12 x13 : Option Value) (Ic : MI) (Pc : MP) (Lc : ML), k + d = D → i = (k : Int) → AtD G (K1, n) R T nf k Y Ic Pc Lc → Wd G ⟨RL, nm, "([I)Z"⟩ cL_law 17 (some .boolean) 48 Z Q 623 [some (.ref b), some (.ref (gB G)), some (.int (zI (nf : Int))), some (.int (zI (m : Int))), some (.int (zI fi)), some (.int (zI he)), some (.int (zI te)), none, none, none, some (.int (zI (D : Int))), some (.int (zI i)), x12, x13, none, none, none] [] (K, n) (mg K1 Ic Is) (mg K1 Pc Ps) (mg K1 Lc Ls) := by
    intro D hD8 hD2 d
    induction d with
    | zero =>
      intro k i x12 x13 Ic Pc Lc hd hi hA
      obtain rfl : k = D := by omega
      refine r_iload (pc := 623) dL_law_623 rfl ?_
      refine r_iload (pc := 625) dL_law_625 rfl ?_
      refine r_icmp_ge (pc := 627) 698 dL_law_627 (by decide) (by omega) (by omega) (fun h627 => ?_) (fun h627 => ?_)
      · skip
        exact st698 _ _ _ _ Ic Pc Lc hD8 hA
      · exfalso; omega
    | succ d ih =>
      intro k i x12 x13 Ic Pc Lc hd hi hA
      have hn2 : 2 ≤ nf ∧ nf ≤ 6 := by omega
      have u1 := upV_in (cellV sx Ln (15 + k)) (m := (nf : Int)) (by omega)
      have u2 := upV_in (b_shr (cellV sx Ln (15 + k)) 4) (m := (nf : Int) - 1) (by omega)
      have u3 := upV_in (b_shr (cellV sx Ln (15 + k)) 8) (m := 999) (by decide)
      have ho := other_ne hn2 u1 u2
      refine r_iload (pc := 623) dL_law_623 rfl ?_
      refine r_iload (pc := 625) dL_law_625 rfl ?_
      refine r_icmp_ge (pc := 627) 698 dL_law_627 (by decide) (by omega) (by omega) (fun h627 => ?_) (fun h627 => ?_)
      · exfalso; omega
      · skip
        refine r_aload_n (pc := 630) dL_law_630 rfl ?_
        refine r_bipush (pc := 631) dL_law_631 (by decide) ?_
        refine r_iload (pc := 633) dL_law_633 rfl ?_
        refine r_iadd (pc := 635) dL_law_635 ?_
        refine i_S2ix (pc := 636) okL_cell staL_cell q692 dL_law_636 (by decide) (Nat.le_of_ble_eq_true rfl) (sL_cell (k := 15 + k) hKb (hsc _)) ?_
        refine r_istore (pc := 639) dL_law_639 (by decide) ?_
        refine r_iload (pc := 641) dL_law_641 rfl ?_
        refine r_iload_n (pc := 643) dL_law_643 rfl ?_
        refine i_S2ix (pc := 644) okL_up staL_up q696 dL_law_644 (by decide) (Nat.le_of_ble_eq_true rfl) (sL_up) ?_
        refine r_istore (pc := 647) dL_law_647 (by decide) ?_
        refine r_aload_n (pc := 649) dL_law_649 rfl ?_
        refine r_iload (pc := 650) dL_law_650 rfl ?_
        refine r_iload (pc := 652) dL_law_652 rfl ?_
        refine r_iconst (pc := 654) dL_law_654 ?_
        refine r_iadd (pc := 655) dL_law_655 ?_
        refine r_iload (pc := 656) dL_law_656 rfl ?_
        refine r_iconst (pc := 658) dL_law_658 ?_
        refine r_ishr (pc := 659) dL_law_659 ?_
        refine r_iload_n (pc := 660) dL_law_660 rfl ?_
        refine r_iconst (pc := 661) dL_law_661 ?_
        refine r_isub (pc := 662) dL_law_662 ?_
        refine i_S2ix (pc := 663) okL_up staL_up q696 dL_law_663 (by decide) (Nat.le_of_ble_eq_true rfl) (sL_up) ?_
        refine r_iadd (pc := 666) dL_law_666 ?_
        refine r_iload_n (pc := 667) dL_law_667 rfl ?_
        refine r_irem (pc := 668) dL_law_668 (by omega) (by omega) (by omega) (by omega) ?_
        refine r_iconst (pc := 669) dL_law_669 ?_
        refine r_iload (pc := 670) dL_law_670 rfl ?_
        refine r_bipush (pc := 672) dL_law_672 (by decide) ?_
        refine r_ishr (pc := 674) dL_law_674 ?_
        refine r_sipush (pc := 675) dL_law_675 (by decide) ?_
        refine i_S2ix (pc := 678) okL_up staL_up q696 dL_law_678 (by decide) (Nat.le_of_ble_eq_true rfl) (sL_up) ?_
        refine r_iadd (pc := 681) dL_law_681 ?_
        refine i_V3if (pc := 682) okX11_debt inX11_debt selX11_debt q604 dL_law_682 (sub_m hs1 _ _ _ _ _ _) (by exact hA.1.1.1.1) rfl (by decide) (Nat.le_of_ble_eq_true rfl) (sX11_debt (G := G) (C := (K1, n)) (I := Ic) (P := Pc) (L := Lc) (h := hA.1.1)) (fun r1 I1 P1 L1 hq => ?_)
        dsimp only
        obtain ⟨e1, a1⟩ := at_debt hA (by omega) hT6 u1 ho.1 ho.2 (by omega) hq
        rw [mg_mg, mg_mg, mg_mg]
        refine r_iload (pc := 685) dL_law_685 rfl ?_
        refine r_icmp_eq (pc := 687) 692 dL_law_687 (by decide) (by omega) (by omega) (fun h687 => ?_) (fun h687 => ?_)
        · skip
          refine r_iinc (pc := 692) dL_law_692 rfl ?_
          refine r_goto (pc := 695) 623 dL_law_695 (by decide) ?_
          exact ih (k + 1) _ _ _ I1 P1 L1 (by omega) (by omega) a1
        · exfalso; omega
  have hA0 : AtD G (K1, n) R T nf 0 Y Ic Pc Lc := ⟨hA, hB.1, hB.2, fun j hj => absurd hj (Nat.not_lt_zero j)⟩
  have u9 := upV_in (cellV sx Ln 14) (m := 9) (by decide)
  by_cases hn2 : nf < 2
  · skip
    refine r_iload_n (pc := 598) dL_law_598 rfl ?_
    refine r_iconst (pc := 599) dL_law_599 ?_
    refine r_icmp_ge (pc := 600) 607 dL_law_600 (by decide) (by omega) (by omega) (fun h600 => ?_) (fun h600 => ?_)
    · exfalso; omega
    · skip
      refine r_iconst (pc := 603) dL_law_603 ?_
      refine r_goto (pc := 604) 618 dL_law_604 (by decide) ?_
      refine r_istore (pc := 618) dL_law_618 (by decide) ?_
      refine r_iconst (pc := 620) dL_law_620 ?_
      refine r_istore (pc := 621) dL_law_621 (by decide) ?_
      exact st623 0 (by omega) (fun _ => rfl) 0 0 _ _ _ Ic Pc Lc rfl rfl hA0
  · obtain ⟨D, hD⟩ : ∃ D : Nat, upV (cellV sx Ln 14) 9 = (D : Int) := ⟨(upV (cellV sx Ln 14) 9).toNat, by omega⟩
    refine r_iload_n (pc := 598) dL_law_598 rfl ?_
    refine r_iconst (pc := 599) dL_law_599 ?_
    refine r_icmp_ge (pc := 600) 607 dL_law_600 (by decide) (by omega) (by omega) (fun h600 => ?_) (fun h600 => ?_)
    · skip
      refine r_aload_n (pc := 607) dL_law_607 rfl ?_
      refine r_bipush (pc := 608) dL_law_608 (by decide) ?_
      refine i_S2ix (pc := 610) okL_cell staL_cell q692 dL_law_610 (by decide) (Nat.le_of_ble_eq_true rfl) (sL_cell (k := 14) hKb (hsc _)) ?_
      refine r_bipush (pc := 613) dL_law_613 (by decide) ?_
      refine i_S2ix (pc := 615) okL_up staL_up q696 dL_law_615 (by decide) (Nat.le_of_ble_eq_true rfl) (sL_up) ?_
      rw [hD]
      refine r_istore (pc := 618) dL_law_618 (by decide) ?_
      refine r_iconst (pc := 620) dL_law_620 ?_
      refine r_istore (pc := 621) dL_law_621 (by decide) ?_
      exact st623 D (by omega) (fun hz => absurd hz hn2) D 0 _ _ _ Ic Pc Lc (by omega) rfl hA0
    · exfalso; omega

