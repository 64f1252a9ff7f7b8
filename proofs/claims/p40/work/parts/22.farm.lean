/-! the farm's cells: what its methods need of them -/
def kcls : Nat → Nat
  | 0 => 3
  | 1 => 9
  | 2 => 4
  | 3 => 6
  | _ => 8
def FarmL (G : WG) (C : CF) (P : MP) (a : Nat) : Prop := gB G ≤ a ∧ C.1 a = some (.inl 2) ∧ C.1 (a + 1) = some (.inr (3, 6)) ∧ C.1 (a + 2) = some (.inl 3) ∧ C.1 (a + 3) = some (.inl 1) ∧ P a 0 = some (gB G + 5) ∧ P a 1 = some (a + 2) ∧ P a 2 = some (a + 1) ∧ P a 3 = some (a + 3) ∧ ∀ f, f < 6 → C.1 (a + 4 + f) = some (.inl 1) ∧ P (a + 1) f = some (a + 4 + f)
def KindL (G : WG) (C : CF) (P : MP) : Prop := C.1 (gB G + 5) = some (.inr (4, 5)) ∧ ∀ k, k < 5 → P (gB G + 5) k = some (gB G + 6 + k) ∧ C.1 (gB G + 6 + k) = some (.inl (kcls k))
def WayL (C : CF) (P : MP) (a : Nat) (F : Nat → Int) : Prop := ∀ f, f < 6 → ∃ w, P (a + 4 + f) 0 = some w ∧ C.1 w = some (.inl (kcls (F (7 + 4 * f)).toNat))
/-- what a farm's method leaves -/
def QF (a : Nat) (I : MI) (F : Nat → Int) (P : MP) (L : ML) : MI → MP → ML → Prop := fun I1 P1 L1 => rdF I1 a = F ∧ outF I I1 a ∧ P = P1 ∧ L = L1
def QFI (a : Nat) (e : Int) (I : MI) (F : Nat → Int) (P : MP) (L : ML) : Int → MI → MP → ML → Prop := fun r I1 P1 L1 => r = e ∧ rdF I1 a = F ∧ outF I I1 a ∧ P = P1 ∧ L = L1
theorem sX2_member {G : WG} {C : CF} {I : MI} {P : MP} {L : ML} {a f : Nat} {x : Int} (hF : FarmL G C P a := by assumption) (hx : x = (f : Int) := by first | rfl | omega) (hf : (f : Int) < I a 10 := by omega) (h6 : I a 10 ≤ 6 := by omega) : SX2_member G [.ref a, .int (zI x)] C I P L (NR C (XR (a + 4 + f) I P L)) := by
  subst hx
  obtain ⟨hB, hK, hK1, hK2, hK3, hP0, hP1, hP2, hP3, hfam⟩ := id hF
  obtain ⟨hKf, hPf⟩ := hfam f (by omega)
  refine en_R (by decide +kernel) (Nat.le_of_ble_eq_true rfl) ?_
  change Wd _ _ _ _ _ _ _ _ 0 [some _, some _, none] [] _ _ _ _
  refine r_iload_n (pc := 0) dX2_member_0 rfl ?_
  refine r_if_lt (pc := 1) 30 dX2_member_1 (by decide) (by omega) (fun h1 => ?_) (fun h1 => ?_)
  · exfalso; omega
  · skip
    refine r_iload_n (pc := 4) dX2_member_4 rfl ?_
    refine r_aload_n (pc := 5) dX2_member_5 rfl ?_
    refine r_getI (pc := 6) dX2_member_6 frX2_54 (by assumption) ?_
    refine r_icmp_ge (pc := 9) 30 dX2_member_9 (by decide) (by omega) (by omega) (fun h9 => ?_) (fun h9 => ?_)
    · exfalso; omega
    · skip
      refine r_iload_n (pc := 12) dX2_member_12 rfl ?_
      refine r_aload_n (pc := 13) dX2_member_13 rfl ?_
      refine r_getA (pc := 14) dX2_member_14 frX2_11 (by assumption) (by assumption) ?_
      refine r_alen (pc := 17) dX2_member_17 (by assumption) ?_
      refine r_icmp_ge (pc := 18) 30 dX2_member_18 (by decide) (by omega) (by omega) (fun h18 => ?_) (fun h18 => ?_)
      · exfalso; omega
      · skip
        refine r_aload_n (pc := 21) dX2_member_21 rfl ?_
        refine r_getA (pc := 22) dX2_member_22 frX2_11 (by assumption) (by assumption) ?_
        refine r_iload_n (pc := 25) dX2_member_25 rfl ?_
        refine r_aald (pc := 26) dX2_member_26 (by assumption) (by decide) rfl (by omega) (by omega) (by assumption) ?_
        refine r_goto (pc := 27) 34 dX2_member_27 (by decide) ?_
        refine r_astore_n (pc := 34) dX2_member_34 (by decide) ?_
        refine r_aload_n (pc := 35) dX2_member_35 rfl ?_
        refine r_ifnonnull (pc := 36) 46 dX2_member_36 (by decide) ?_
        refine r_aload_n (pc := 46) dX2_member_46 rfl ?_
        refine t_aret (pc := 47) dX2_member_47 rfl ?_
        exact ⟨rfl, rfl, rfl, rfl⟩
theorem sX2_sown {G : WG} {C : CF} {I : MI} {P : MP} {L : ML} {a : Nat} {Y : Int} (hF : FarmL G C P a := by assumption) (hI : FI (rdF I a) Y := by assumption) : SX2_sown G [.ref a] C I P L (NI C (XI (sownF (rdF I a)) I P L)) := by
  obtain ⟨hB, hK, hK1, hK2, hK3, hP0, hP1, hP2, hP3, hfam⟩ := id hF
  obtain ⟨hs6, hsz⟩ := sizeF_le hI
  rw [← at_10] at hsz
  have h7 : 0 ≤ I a 7 ∧ I a 7 ≤ 9999 := hI.2.2.2.1
  have h8 : 0 ≤ I a 8 ∧ I a 8 ≤ 9999 := hI.2.2.2.2.1
  generalize hq : XI (sownF (rdF I a)) I P L = q
  refine en_I (by decide +kernel) (Nat.le_of_ble_eq_true rfl) ?_
  change Wd _ _ _ _ _ _ _ _ 0 [some _, none, none, none] [] _ _ _ _
  have loop : ∀ (d f : Nat) (i k : Int) (x : Option Value), f + d = sizeF (rdF I a) → i = (f : Int) → k = handsF (rdF I a) f → Wd G yX2_sown cX2_sown 4 (some .int) 1 (C.2.1 + 0, C.2.2 + 0) (NI C q) 4 [some (.ref a), some (.int (zI k)), some (.int (zI i)), x] [] C I P L := by
    intro d
    induction d using Nat.strongRecOn with
    | _ d ih =>
      intro f i k x hd hi hk
      have hkr := handsF_in hI f (by omega)
      refine r_iload_n (pc := 4) dX2_sown_4 rfl ?_
      refine r_aload_n (pc := 5) dX2_sown_5 rfl ?_
      refine r_getI (pc := 6) dX2_sown_6 frX2_54 (by assumption) ?_
      refine r_icmp_ge (pc := 9) 38 dX2_sown_9 (by decide) (by omega) (by omega) (fun h9 => ?_) (fun h9 => ?_)
      · skip
        refine r_aload_n (pc := 38) dX2_sown_38 rfl ?_
        refine r_getI (pc := 39) dX2_sown_39 frX2_45 (by assumption) ?_
        refine r_iconst (pc := 42) dX2_sown_42 ?_
        refine r_aload_n (pc := 43) dX2_sown_43 rfl ?_
        refine r_getI (pc := 44) dX2_sown_44 frX2_48 (by assumption) ?_
        refine r_imul (pc := 47) dX2_sown_47 ?_
        refine r_min (pc := 48) q387 stamthmin inimth codmthmin (by decide) (Nat.le_of_ble_eq_true rfl) dX2_sown_48 (by omega) (by omega) ?_
        refine r_iload_n (pc := 51) dX2_sown_51 rfl ?_
        refine r_min (pc := 52) q387 stamthmin inimth codmthmin (by decide) (Nat.le_of_ble_eq_true rfl) dX2_sown_52 (by omega) (by omega) ?_
        refine t_iret (pc := 55) dX2_sown_55 rfl rfl ?_
        subst hq; exact ⟨by unfold sownF; rw [← at_7, ← at_8, show sizeF (rdF I a) = f by omega]; omega, rfl, rfl, rfl⟩
      · skip
        have hf6 : f < 6 := by omega
        have e2 := at_m I a hf6
        have e3 := at_y I a hf6
        have hKf := (hfam f hf6).1
        have hb := hI.2.2.2.2.2.2.2 f hf6
        rw [← e2, ← e3] at hb
        refine r_aload_n (pc := 12) dX2_sown_12 rfl ?_
        refine r_iload_n (pc := 13) dX2_sown_13 rfl ?_
        refine i_V1rx (pc := 14) okX2_member inX2_member selX2_member q365 dX2_sown_14 (by assumption) rfl (by decide) (Nat.le_of_ble_eq_true rfl) (sX2_member (f := f)) ?_
        refine r_astore_n (pc := 17) dX2_sown_17 (by decide) ?_
        refine r_aload_n (pc := 18) dX2_sown_18 rfl ?_
        refine r_getI (pc := 19) dX2_sown_19 frX2_78 (by assumption) ?_
        refine r_if_le (pc := 22) 32 dX2_sown_22 (by decide) (by omega) (fun h22 => ?_) (fun h22 => ?_)
        · skip
          refine r_iinc (pc := 32) dX2_sown_32 rfl ?_
          refine r_goto (pc := 35) 4 dX2_sown_35 (by decide) ?_
          exact ih (d - 1) (by omega) (f + 1) _ _ _ (by omega) (by omega) (by rw [handsF, ← e3, ← e2]; omega)
        · skip
          refine r_iload_n (pc := 25) dX2_sown_25 rfl ?_
          refine r_aload_n (pc := 26) dX2_sown_26 rfl ?_
          refine r_getI (pc := 27) dX2_sown_27 frX2_75 (by assumption) ?_
          refine r_iadd (pc := 30) dX2_sown_30 ?_
          refine r_istore_n (pc := 31) dX2_sown_31 (by decide) ?_
          refine r_iinc (pc := 32) dX2_sown_32 rfl ?_
          refine r_goto (pc := 35) 4 dX2_sown_35 (by decide) ?_
          exact ih (d - 1) (by omega) (f + 1) _ _ _ (by omega) (by omega) (by rw [handsF, ← e3, ← e2]; omega)
  refine r_iconst (pc := 0) dX2_sown_0 ?_
  refine r_istore_n (pc := 1) dX2_sown_1 (by decide) ?_
  refine r_iconst (pc := 2) dX2_sown_2 ?_
  refine r_istore_n (pc := 3) dX2_sown_3 (by decide) ?_
  exact loop (sizeF (rdF I a)) 0 _ _ _ (by omega) (by omega) rfl


