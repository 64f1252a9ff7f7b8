/-! the law makes its lump -/
def QM (G : WG) (K1 : Nat → Option Kd) (n : Nat × Nat) (R : LSt × LSt × (Nat → Int) × Int × Int × Int × Int × Int × Int × Int) (st mo me : Nat → Int) (nf : Nat) (Y : Int) (Is : MI) (Ps : MP) (Ls : ML) : Int → MI → MP → ML → Prop := fun r I1 P1 L1 => r = 1 ∧ ∃ Ic Pc Lc, I1 = mg K1 Ic Is ∧ P1 = mg K1 Pc Ps ∧ L1 = mg K1 Lc Ls ∧ YI G (K1, n) Ic Pc Y ∧ M2 R st mo me nf (rdY G Ic Lc)
theorem sL_made {G : WG} {b Ln nf : Nat} {K1 K : Nat → Option Kd} {n : Nat × Nat} {sx : Nat → Int} {Is : MI} {Ps : MP} {Ls : ML} {R : LSt × LSt × (Nat → Int) × Int × Int × Int × Int × Int × Int × Int} {Y : Int} {Ic : MI} {Pc : MP} {Lc : ML} (hX : LC b Ln K1 K sx Is) (hy : YI G (K1, n) Ic Pc Y) (hY : 0 ≤ Y ∧ Y ≤ 100) (hR : (rdY G Ic Lc).2 = R) (hten : (rdY G Ic Lc).1.1 0 = 10) (hn : nf ≤ 6) : SL_made G [.ref (gB G), .ref b, .int (zI (nf : Int))] (K, n) (mg K1 Ic Is) (mg K1 Pc Ps) (mg K1 Lc Ls) (NI (K, n) (QM G K1 n R (storeV sx Ln) (mouthsV sx Ln) (memoryV sx Ln) nf Y Is Ps Ls)) := by
  obtain ⟨hs1, hKb, hL, hsc⟩ := hX
  refine en_I (by decide +kernel) (Nat.le_of_ble_eq_true rfl) ?_
  change Wd _ _ _ _ _ _ _ _ 0 [some _, some _, some _, none, none] [] _ _ _ _
  have loop2 : ∀ (d f : Nat) (i : Int) (Ic : MI) (Pc : MP) (Lc : ML), f + d = nf → i = (f : Int) → YI G (K1, n) Ic Pc Y → M2 R (storeV sx Ln) (mouthsV sx Ln) (memoryV sx Ln) f (rdY G Ic Lc) → Wd G yL_made cL_made 5 (some .boolean) 3 (n.1 + 0, n.2 + 0) (NI (K, n) (QM G K1 n R (storeV sx Ln) (mouthsV sx Ln) (memoryV sx Ln) nf Y Is Ps Ls)) 62 [some (.ref (gB G)), some (.ref b), some (.int (zI (nf : Int))), some (.int (zI 1)), some (.int (zI i))] [] (K, n) (mg K1 Ic Is) (mg K1 Pc Ps) (mg K1 Lc Ls) := by
    intro d
    induction d with
    | zero =>
      intro f i Ic Pc Lc hd hi hy hM
      subst hi
      obtain rfl : f = nf := by omega
      refine r_iload (pc := 62) dL_made_62 rfl ?_
      refine r_iload_n (pc := 64) dL_made_64 rfl ?_
      refine r_icmp_ge (pc := 65) 126 dL_made_65 (by decide) (by omega) (by omega) (fun h65 => ?_) (fun h65 => ?_)
      · skip
        refine r_iload_n (pc := 126) dL_made_126 rfl ?_
        refine t_iret (pc := 127) dL_made_127 rfl rfl ?_
        exact ⟨rfl, Ic, Pc, Lc, rfl, rfl, rfl, hy, hM⟩
      · exfalso; omega
    | succ d ih =>
      intro f i Ic Pc Lc hd hi hy hM
      subst hi
      have k1 := kindV_in sx Ln f
      have k2 := mouthsV_in sx Ln f
      have k3 := memoryV_in sx Ln f
      have k4 := jobV_in sx Ln f
      have mf := m_fam (k := kindV sx Ln f) hM (by omega) k1 k2 k3
      refine r_iload (pc := 62) dL_made_62 rfl ?_
      refine r_iload_n (pc := 64) dL_made_64 rfl ?_
      refine r_icmp_ge (pc := 65) 126 dL_made_65 (by decide) (by omega) (by omega) (fun h65 => ?_) (fun h65 => ?_)
      · exfalso; omega
      · skip
        refine r_iload_n (pc := 68) dL_made_68 rfl ?_
        refine r_if_eq (pc := 69) 118 dL_made_69 (by decide) (by omega) (fun h69 => ?_) (fun h69 => ?_)
        · exfalso; omega
        · skip
          refine r_aload_n (pc := 72) dL_made_72 rfl ?_
          refine r_aload_n (pc := 73) dL_made_73 rfl ?_
          refine r_iload (pc := 74) dL_made_74 rfl ?_
          refine i_S2ix (pc := 76) okL_kind staL_kind q734 dL_made_76 (by decide) (Nat.le_of_ble_eq_true rfl) (sL_kind (f := f) hKb (hsc _)) ?_
          refine r_aload_n (pc := 79) dL_made_79 rfl ?_
          refine r_iload (pc := 80) dL_made_80 rfl ?_
          refine i_S2ix (pc := 82) okL_mouths staL_mouths q706 dL_made_82 (by decide) (Nat.le_of_ble_eq_true rfl) (sL_mouths (f := f) hKb (hsc _)) ?_
          refine r_aload_n (pc := 85) dL_made_85 rfl ?_
          refine r_iload (pc := 86) dL_made_86 rfl ?_
          refine i_S2ix (pc := 88) okL_memory staL_memory q709 dL_made_88 (by decide) (Nat.le_of_ble_eq_true rfl) (sL_memory (f := f) hKb (hsc _)) ?_
          refine i_V3if (pc := 91) okX11_family inX11_family selX11_family q737 dL_made_91 (sub_m hs1 _ _ _ _ _ _) (by exact hy.1.1) rfl (by decide) (Nat.le_of_ble_eq_true rfl) (sX11_family (G := G) (C := (K1, n)) (I := Ic) (P := Pc) (L := Lc) (h := hy)) (fun r1 I1 P1 L1 hq => ?_)
          dsimp only
          obtain ⟨e1, s1, y1⟩ := hq
          rw [mf.1] at e1
          have m1 := mf.2.1
          have m0 := mf.2.2
          rw [← s1] at m1 m0
          have mj := m_job (j := jobV sx Ln f) m1 m0 (by omega) k4
          rw [mg_mg, mg_mg, mg_mg]
          refine r_iload (pc := 94) dL_made_94 rfl ?_
          refine r_icmp_ne (pc := 96) 118 dL_made_96 (by decide) (by omega) (by omega) (fun h96 => ?_) (fun h96 => ?_)
          · exfalso; omega
          · skip
            refine r_aload_n (pc := 99) dL_made_99 rfl ?_
            refine r_iload (pc := 100) dL_made_100 rfl ?_
            refine r_aload_n (pc := 102) dL_made_102 rfl ?_
            refine r_iload (pc := 103) dL_made_103 rfl ?_
            refine i_S2ix (pc := 105) okL_job staL_job q745 dL_made_105 (by decide) (Nat.le_of_ble_eq_true rfl) (sL_job (f := f) hKb (hsc _)) ?_
            refine i_V2if (pc := 108) okX11_job inX11_job selX11_job q332 dL_made_108 (sub_m hs1 _ _ _ _ _ _) (by exact y1.1.1) rfl (by decide) (Nat.le_of_ble_eq_true rfl) (sX11_job (G := G) (C := (K1, n)) (I := I1) (P := P1) (L := L1) (h := y1)) (fun r2 I2 P2 L2 hq2 => ?_)
            dsimp only
            obtain ⟨e2, s2, y2⟩ := hq2
            rw [mj.1] at e2
            have m2 := mj.2
            rw [← s2] at m2
            rw [mg_mg, mg_mg, mg_mg]
            refine r_if_ne (pc := 111) 118 dL_made_111 (by decide) (by omega) (fun h111 => ?_) (fun h111 => ?_)
            · exfalso; omega
            · skip
              refine r_iconst (pc := 114) dL_made_114 ?_
              refine r_goto (pc := 115) 119 dL_made_115 (by decide) ?_
              refine r_istore_n (pc := 119) dL_made_119 (by decide) ?_
              refine r_iinc (pc := 120) dL_made_120 rfl ?_
              refine r_goto (pc := 123) 62 dL_made_123 (by decide) ?_
              exact ih (f + 1) _ I2 P2 L2 (by omega) (by omega) y2 m2
  have loop1 : ∀ (d f : Nat) (i : Int) (Ic : MI) (Pc : MP) (Lc : ML), f + d = 4 → i = (f : Int) → YI G (K1, n) Ic Pc Y → M1 R (storeV sx Ln) f (rdY G Ic Lc) → Wd G yL_made cL_made 5 (some .boolean) 3 (n.1 + 0, n.2 + 0) (NI (K, n) (QM G K1 n R (storeV sx Ln) (mouthsV sx Ln) (memoryV sx Ln) nf Y Is Ps Ls)) 22 [some (.ref (gB G)), some (.ref b), some (.int (zI (nf : Int))), some (.int (zI 1)), some (.int (zI i))] [] (K, n) (mg K1 Ic Is) (mg K1 Pc Ps) (mg K1 Lc Ls) := by
    intro d
    induction d with
    | zero =>
      intro f i Ic Pc Lc hd hi hy hM
      subst hi
      obtain rfl : f = 4 := by omega
      refine r_iload (pc := 22) dL_made_22 rfl ?_
      refine r_iconst (pc := 24) dL_made_24 ?_
      refine r_icmp_ge (pc := 25) 59 dL_made_25 (by decide) (by omega) (by omega) (fun h25 => ?_) (fun h25 => ?_)
      · skip
        refine r_iconst (pc := 59) dL_made_59 ?_
        refine r_istore (pc := 60) dL_made_60 (by decide) ?_
        exact loop2 nf 0 _ Ic Pc Lc (by omega) (by omega) hy (m_12 hM)
      · exfalso; omega
    | succ d ih =>
      intro f i Ic Pc Lc hd hi hy hM
      subst hi
      have k1 := storeV_in sx Ln f
      have ms := m_store hM (by omega) (by omega)
      refine r_iload (pc := 22) dL_made_22 rfl ?_
      refine r_iconst (pc := 24) dL_made_24 ?_
      refine r_icmp_ge (pc := 25) 59 dL_made_25 (by decide) (by omega) (by omega) (fun h25 => ?_) (fun h25 => ?_)
      · exfalso; omega
      · skip
        refine r_iload_n (pc := 28) dL_made_28 rfl ?_
        refine r_if_eq (pc := 29) 51 dL_made_29 (by decide) (by omega) (fun h29 => ?_) (fun h29 => ?_)
        · exfalso; omega
        · skip
          refine r_aload_n (pc := 32) dL_made_32 rfl ?_
          refine r_iload (pc := 33) dL_made_33 rfl ?_
          refine r_aload_n (pc := 35) dL_made_35 rfl ?_
          refine r_iload (pc := 36) dL_made_36 rfl ?_
          refine i_S2ix (pc := 38) okL_store staL_store q700 dL_made_38 (by decide) (Nat.le_of_ble_eq_true rfl) (sL_store (f := f) hKb (hsc _)) ?_
          refine i_V2if (pc := 41) okX11_store inX11_store selX11_store q313 dL_made_41 (sub_m hs1 _ _ _ _ _ _) (by exact hy.1.1) rfl (by decide) (Nat.le_of_ble_eq_true rfl) (sX11_store (G := G) (C := (K1, n)) (I := Ic) (P := Pc) (L := Lc) (h := hy)) (fun r1 I1 P1 L1 hq => ?_)
          dsimp only
          obtain ⟨e1, s1, y1⟩ := hq
          rw [ms.1] at e1
          have m1 := ms.2
          rw [← s1] at m1
          rw [mg_mg, mg_mg, mg_mg]
          refine r_if_ne (pc := 44) 51 dL_made_44 (by decide) (by omega) (fun h44 => ?_) (fun h44 => ?_)
          · exfalso; omega
          · skip
            refine r_iconst (pc := 47) dL_made_47 ?_
            refine r_goto (pc := 48) 52 dL_made_48 (by decide) ?_
            refine r_istore_n (pc := 52) dL_made_52 (by decide) ?_
            refine r_iinc (pc := 53) dL_made_53 rfl ?_
            refine r_goto (pc := 56) 22 dL_made_56 (by decide) ?_
            exact ih (f + 1) _ I1 P1 L1 (by omega) (by omega) y1 m1
  have k0 := yearsV_in sx Ln
  have my := m_year (st := storeV sx Ln) hR k0
  refine r_aload_n (pc := 0) dL_made_0 rfl ?_
  refine r_aload_n (pc := 1) dL_made_1 rfl ?_
  refine i_S1ix (pc := 2) okL_years staL_years q715 dL_made_2 (by decide) (Nat.le_of_ble_eq_true rfl) (sL_years hKb (hsc _)) ?_
  refine i_V1if (pc := 5) okX11_year inX11_year selX11_year q718 dL_made_5 (sub_m hs1 _ _ _ _ _ _) (by exact hy.1.1) rfl (by decide) (Nat.le_of_ble_eq_true rfl) (sX11_year (G := G) (C := (K1, n)) (I := Ic) (P := Pc) (L := Lc) (h := hy)) (fun r1 I1 P1 L1 hq => ?_)
  dsimp only
  obtain ⟨e1, s1, y1⟩ := hq
  rw [my.1, hten] at e1
  have m1 := my.2
  rw [← s1] at m1
  rw [mg_mg, mg_mg, mg_mg]
  refine r_bipush (pc := 8) dL_made_8 (by decide) ?_
  refine r_icmp_ne (pc := 10) 17 dL_made_10 (by decide) (by omega) (by omega) (fun h10 => ?_) (fun h10 => ?_)
  · exfalso; omega
  · skip
    refine r_iconst (pc := 13) dL_made_13 ?_
    refine r_goto (pc := 14) 18 dL_made_14 (by decide) ?_
    refine r_istore_n (pc := 18) dL_made_18 (by decide) ?_
    refine r_iconst (pc := 19) dL_made_19 ?_
    refine r_istore (pc := 20) dL_made_20 (by decide) ?_
    exact loop1 4 0 _ I1 P1 L1 (by omega) (by omega) y1 m1

