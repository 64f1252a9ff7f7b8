/-! phase G: years gone by and undone; all is as at first -/
section UNDO
variable {G : WG} {C : CF} {R : LSt × LSt × (Nat → Int) × Int × Int × Int × Int × Int × Int × Int} {T : Nat → Int} {Y r : Int} {I I1 : MI} {P P1 : MP} {L L1 : ML}
theorem at_undo1 {k : Nat} {l0 : Int} (h : AtS G C R (runF T (k + 1)) Y I P L) (hp : PaL (rdY G I L).1 T l0 (k + 1)) (hk : k < 6) (hq : QY G (undoS (rdY G I L)).1 (undoS (rdY G I L)).2 Y C r I1 P1 L1) : r = 1 ∧ AtS G C R (runF T k) Y I1 P1 L1 ∧ PaL (rdY G I1 L1).1 T l0 k := by
  obtain ⟨q1, q2, q3⟩ := hq
  have h1 := h.sz
  have hs : sizeF (rdY G I L).1.1 ≤ 6 := by rw [h1.1]; exact h1.2.1
  have e : undoS (rdY G I L) = (1, yLu (rdY G I L) (backL (rdY G I L).1)) := if_pos (by rw [hp.2.2.1]; omega)
  rw [e] at q1 q2
  have hb := pa_back hp hk hs
  refine ⟨q1, ⟨q3, by rw [q2]; exact h.2.1, ?_⟩, ?_⟩
  · rw [q2]; exact hb.2.2.2.1
  · rw [q2]; exact hb
theorem at_undo0 (h : AtS G C R T Y I P L) (hu : (rdY G I L).1.2.2.2.1 = 0) (hq : QY G (undoS (rdY G I L)).1 (undoS (rdY G I L)).2 Y C r I1 P1 L1) : r = -3 ∧ ∃ R', AtS G C R' T Y I1 P1 L1 := by
  obtain ⟨q1, q2, q3⟩ := hq
  have e : undoS (rdY G I L) = (-3, yN (rdY G I L)) := if_neg (by omega)
  rw [e] at q1 q2
  exact ⟨q1, (rdY G I1 L1).2, q3, rfl, by rw [q2]; exact h.2.2⟩
end UNDO
theorem ph_g {G : WG} {nm : String} {b Ln nf m : Nat} {K1 K : Nat → Option Kd} {n : Nat × Nat} {Z : Nat × Nat} {Q : Post} {sx : Nat → Int} {Is : MI} {Ps : MP} {Ls : ML} {T : Nat → Int} {R : LSt × LSt × (Nat → Int) × Int × Int × Int × Int × Int × Int × Int} {Y fi he te : Int} {Ic : MI} {Pc : MP} {Lc : ML} (hX : LC b Ln K1 K sx Is) (hQ : ∀ C I P L, Q (some (.int (zI 1))) C I P L) (hnf : nf ≤ 6) (hTM : TM T nf (storeV sx Ln) (mouthsV sx Ln) (memoryV sx Ln)) (hA : AtS G (K1, n) R T Y Ic Pc Lc) (hu0 : (rdY G Ic Lc).1.2.2.2.1 = 0) (hY : 0 ≤ Y ∧ Y ≤ 10000) : WJ G nm b nf m fi he te K1 K n Z Q Is Ps Ls 811 Ic Pc Lc := by
  unfold WJ
  obtain ⟨hs1, hKb, hL, hsc⟩ := hX
  obtain ⟨t1, t6, t31, t32, tst, tmm⟩ := hTM
  have u7 := upV_in (cellV sx Ln 25) (m := 7) (by decide)
  obtain ⟨D, hD⟩ : ∃ D : Nat, upV (cellV sx Ln 25) 7 = (D : Int) := ⟨(upV (cellV sx Ln 25) 7).toNat, by omega⟩
  have hD6 : D ≤ 6 := by omega
  have hFT := hA.fi
  have st962 : ∀ (R : LSt × LSt × (Nat → Int) × Int × Int × Int × Int × Int × Int × Int) (Y' : Int) (e f : Nat) (j : Int) (Ic : MI) (Pc : MP) (Lc : ML), f + e = nf → j = (f : Int) → AtS G (K1, n) R T Y' Ic Pc Lc → Wd G ⟨RL, nm, "([I)Z"⟩ cL_law 17 (some .boolean) 48 Z Q 962 [some (.ref b), some (.ref (gB G)), some (.int (zI (nf : Int))), some (.int (zI (m : Int))), some (.int (zI fi)), some (.int (zI he)), some (.int (zI te)), none, none, none, none, none, none, none, some (.int (zI (D : Int))), some (.int (zI 1)), some (.int (zI j))] [] (K, n) (mg K1 Ic Is) (mg K1 Pc Ps) (mg K1 Lc Ls) := by
    intro R Y' e
    induction e with
    | zero =>
      intro f j Ic Pc Lc he1 hj hA2
      refine r_iload (pc := 962) dL_law_962 rfl ?_
      refine r_iload_n (pc := 964) dL_law_964 rfl ?_
      refine r_icmp_ge (pc := 965) 1018 dL_law_965 (by decide) (by omega) (by omega) (fun h965 => ?_) (fun h965 => ?_)
      · skip
        refine r_iload (pc := 1018) dL_law_1018 rfl ?_
        exact r_iret (pc := 1020) dL_law_1020 rfl rfl (hQ _ _ _ _)
      · exfalso; omega
    | succ e ihe =>
      intro f j Ic Pc Lc he1 hj hA2
      have hmm := tmm f (by omega)
      have hmi := mouthsV_in sx Ln f
      have hme := memoryV_in sx Ln f
      rw [show 8 + 4 * f = 7 + 4 * f + 1 by omega, show 9 + 4 * f = 7 + 4 * f + 2 by omega] at hmm
      refine r_iload (pc := 962) dL_law_962 rfl ?_
      refine r_iload_n (pc := 964) dL_law_964 rfl ?_
      refine r_icmp_ge (pc := 965) 1018 dL_law_965 (by decide) (by omega) (by omega) (fun h965 => ?_) (fun h965 => ?_)
      · exfalso; omega
      · skip
        refine r_iload (pc := 968) dL_law_968 rfl ?_
        refine r_if_eq (pc := 970) 1009 dL_law_970 (by decide) (by omega) (fun h970 => ?_) (fun h970 => ?_)
        · exfalso; omega
        · skip
          refine r_aload_n (pc := 973) dL_law_973 rfl ?_
          refine r_iload (pc := 974) dL_law_974 rfl ?_
          refine r_iconst (pc := 976) dL_law_976 ?_
          refine i_V2if (pc := 977) okX11_about inX11_about selX11_about q521 dL_law_977 (sub_m hs1 _ _ _ _ _ _) (by exact hA2.1.1.1) rfl (by decide) (Nat.le_of_ble_eq_true rfl) (sX11_about (G := G) (C := (K1, n)) (I := Ic) (P := Pc) (L := Lc) (h := hA2.1)) (fun r1 I1 P1 L1 hq => ?_)
          dsimp only
          obtain ⟨e1, a1⟩ := at_about (f := f) (j := 1) hA2 hj rfl (by omega) (by omega) hq
          rw [mg_mg, mg_mg, mg_mg]
          refine r_aload_n (pc := 980) dL_law_980 rfl ?_
          refine r_iload (pc := 981) dL_law_981 rfl ?_
          refine i_S2ix (pc := 983) okL_mouths staL_mouths q706 dL_law_983 (by decide) (Nat.le_of_ble_eq_true rfl) (sL_mouths (f := f) hKb (hsc _)) ?_
          refine r_icmp_ne (pc := 986) 1009 dL_law_986 (by decide) (by omega) (by omega) (fun h986 => ?_) (fun h986 => ?_)
          · exfalso; omega
          · skip
            refine r_aload_n (pc := 989) dL_law_989 rfl ?_
            refine r_iload (pc := 990) dL_law_990 rfl ?_
            refine r_iconst (pc := 992) dL_law_992 ?_
            refine i_V2if (pc := 993) okX11_about inX11_about selX11_about q521 dL_law_993 (sub_m hs1 _ _ _ _ _ _) (by exact a1.1.1.1) rfl (by decide) (Nat.le_of_ble_eq_true rfl) (sX11_about (G := G) (C := (K1, n)) (I := I1) (P := P1) (L := L1) (h := a1.1)) (fun r2 I2 P2 L2 hq2 => ?_)
            dsimp only
            obtain ⟨e2, a2⟩ := at_about (f := f) (j := 2) a1 hj rfl (by omega) (by omega) hq2
            rw [mg_mg, mg_mg, mg_mg]
            refine r_aload_n (pc := 996) dL_law_996 rfl ?_
            refine r_iload (pc := 997) dL_law_997 rfl ?_
            refine i_S2ix (pc := 999) okL_memory staL_memory q709 dL_law_999 (by decide) (Nat.le_of_ble_eq_true rfl) (sL_memory (f := f) hKb (hsc _)) ?_
            refine r_icmp_ne (pc := 1002) 1009 dL_law_1002 (by decide) (by omega) (by omega) (fun h1002 => ?_) (fun h1002 => ?_)
            · exfalso; omega
            · skip
              refine r_iconst (pc := 1005) dL_law_1005 ?_
              refine r_goto (pc := 1006) 1010 dL_law_1006 (by decide) ?_
              refine r_istore (pc := 1010) dL_law_1010 (by decide) ?_
              refine r_iinc (pc := 1012) dL_law_1012 rfl ?_
              refine r_goto (pc := 1015) 962 dL_law_1015 (by decide) ?_
              exact ihe (f + 1) _ I2 P2 L2 (by omega) (by omega) a2
  have st918 : ∀ (R : LSt × LSt × (Nat → Int) × Int × Int × Int × Int × Int × Int × Int) (Y' : Int) (e c : Nat) (j : Int) (Ic : MI) (Pc : MP) (Lc : ML), c + e = 4 → j = (c : Int) → AtS G (K1, n) R T Y' Ic Pc Lc → Wd G ⟨RL, nm, "([I)Z"⟩ cL_law 17 (some .boolean) 48 Z Q 918 [some (.ref b), some (.ref (gB G)), some (.int (zI (nf : Int))), some (.int (zI (m : Int))), some (.int (zI fi)), some (.int (zI he)), some (.int (zI te)), none, none, none, none, none, none, none, some (.int (zI (D : Int))), some (.int (zI 1)), some (.int (zI j))] [] (K, n) (mg K1 Ic Is) (mg K1 Pc Ps) (mg K1 Lc Ls) := by
    intro R Y' e
    induction e with
    | zero =>
      intro c j Ic Pc Lc he1 hj hA2
      refine r_iload (pc := 918) dL_law_918 rfl ?_
      refine r_iconst (pc := 920) dL_law_920 ?_
      refine r_icmp_ge (pc := 921) 959 dL_law_921 (by decide) (by omega) (by omega) (fun h921 => ?_) (fun h921 => ?_)
      · skip
        refine r_iconst (pc := 959) dL_law_959 ?_
        refine r_istore (pc := 960) dL_law_960 (by decide) ?_
        exact st962 R Y' nf 0 _ Ic Pc Lc (by omega) rfl hA2
      · exfalso; omega
    | succ e ihe =>
      intro c j Ic Pc Lc he1 hj hA2
      have hst := tst c (by omega)
      have hsi := storeV_in sx Ln c
      refine r_iload (pc := 918) dL_law_918 rfl ?_
      refine r_iconst (pc := 920) dL_law_920 ?_
      refine r_icmp_ge (pc := 921) 959 dL_law_921 (by decide) (by omega) (by omega) (fun h921 => ?_) (fun h921 => ?_)
      · exfalso; omega
      · skip
        refine r_iload (pc := 924) dL_law_924 rfl ?_
        refine r_if_eq (pc := 926) 950 dL_law_926 (by decide) (by omega) (fun h926 => ?_) (fun h926 => ?_)
        · exfalso; omega
        · skip
          refine r_aload_n (pc := 929) dL_law_929 rfl ?_
          refine r_iconst (pc := 930) dL_law_930 ?_
          refine r_iload (pc := 931) dL_law_931 rfl ?_
          refine r_iadd (pc := 933) dL_law_933 ?_
          refine i_V1if (pc := 934) okX11_count inX11_count selX11_count q684 dL_law_934 (sub_m hs1 _ _ _ _ _ _) (by exact hA2.1.1.1) rfl (by decide) (Nat.le_of_ble_eq_true rfl) (sX11_count (G := G) (C := (K1, n)) (I := Ic) (P := Pc) (L := Lc) (h := hA2.1)) (fun r1 I1 P1 L1 hq => ?_)
          dsimp only
          obtain ⟨e1, a1⟩ := at_cnt (c := 2 + c) hA2 (by omega) (by omega) hq
          rw [mg_mg, mg_mg, mg_mg]
          refine r_aload_n (pc := 937) dL_law_937 rfl ?_
          refine r_iload (pc := 938) dL_law_938 rfl ?_
          refine i_S2ix (pc := 940) okL_store staL_store q700 dL_law_940 (by decide) (Nat.le_of_ble_eq_true rfl) (sL_store (f := c) hKb (hsc _)) ?_
          refine r_icmp_ne (pc := 943) 950 dL_law_943 (by decide) (by omega) (by omega) (fun h943 => ?_) (fun h943 => ?_)
          · exfalso; omega
          · skip
            refine r_iconst (pc := 946) dL_law_946 ?_
            refine r_goto (pc := 947) 951 dL_law_947 (by decide) ?_
            refine r_istore (pc := 951) dL_law_951 (by decide) ?_
            refine r_iinc (pc := 953) dL_law_953 rfl ?_
            refine r_goto (pc := 956) 918 dL_law_956 (by decide) ?_
            exact ihe (c + 1) _ I1 P1 L1 (by omega) (by omega) a1
  have st873 : ∀ (Y' i : Int) (x16 : Option Value) (Ic : MI) (Pc : MP) (Lc : ML), AtS G (K1, n) R T Y' Ic Pc Lc → (rdY G Ic Lc).1.2.2.2.1 = 0 → Wd G ⟨RL, nm, "([I)Z"⟩ cL_law 17 (some .boolean) 48 Z Q 873 [some (.ref b), some (.ref (gB G)), some (.int (zI (nf : Int))), some (.int (zI (m : Int))), some (.int (zI fi)), some (.int (zI he)), some (.int (zI te)), none, none, none, none, none, none, none, some (.int (zI (D : Int))), some (.int (zI i)), x16] [] (K, n) (mg K1 Ic Is) (mg K1 Pc Ps) (mg K1 Lc Ls) := by
    intro Y' i x16 Ic Pc Lc hA2 hu
    refine r_aload_n (pc := 873) dL_law_873 rfl ?_
    refine i_V0if (pc := 874) okX11_undo inX11_undo selX11_undo q505 dL_law_874 (sub_m hs1 _ _ _ _ _ _) (by exact hA2.1.1.1) rfl (by decide) (Nat.le_of_ble_eq_true rfl) (sX11_undo (G := G) (C := (K1, n)) (I := Ic) (P := Pc) (L := Lc) (h := hA2.1)) (fun r1 I1 P1 L1 hq => ?_)
    dsimp only
    obtain ⟨e1, R', a1⟩ := at_undo0 hA2 hu hq
    rw [mg_mg, mg_mg, mg_mg]
    refine r_bipush (pc := 877) dL_law_877 (by decide) ?_
    refine r_icmp_ne (pc := 879) 912 dL_law_879 (by decide) (by omega) (by omega) (fun h879 => ?_) (fun h879 => ?_)
    · exfalso; omega
    · skip
      refine r_aload_n (pc := 882) dL_law_882 rfl ?_
      refine r_iconst (pc := 883) dL_law_883 ?_
      refine i_V1if (pc := 884) okX11_count inX11_count selX11_count q684 dL_law_884 (sub_m hs1 _ _ _ _ _ _) (by exact a1.1.1.1) rfl (by decide) (Nat.le_of_ble_eq_true rfl) (sX11_count (G := G) (C := (K1, n)) (I := I1) (P := P1) (L := L1) (h := a1.1)) (fun r2 I2 P2 L2 hq2 => ?_)
      dsimp only
      obtain ⟨e2, a2⟩ := at_cnt (c := 1) a1 rfl (by omega) hq2
      rw [mg_mg, mg_mg, mg_mg]
      refine r_if_ne (pc := 887) 912 dL_law_887 (by decide) (by omega) (fun h887 => ?_) (fun h887 => ?_)
      · exfalso; omega
      · skip
        refine r_aload_n (pc := 890) dL_law_890 rfl ?_
        refine r_bipush (pc := 891) dL_law_891 (by decide) ?_
        refine i_V1if (pc := 893) okX11_count inX11_count selX11_count q684 dL_law_893 (sub_m hs1 _ _ _ _ _ _) (by exact a2.1.1.1) rfl (by decide) (Nat.le_of_ble_eq_true rfl) (sX11_count (G := G) (C := (K1, n)) (I := I2) (P := P2) (L := L2) (h := a2.1)) (fun r3 I3 P3 L3 hq3 => ?_)
        dsimp only
        obtain ⟨e3, a3⟩ := at_count a2 (by omega) hq3
        rw [mg_mg, mg_mg, mg_mg]
        refine r_if_ne (pc := 896) 912 dL_law_896 (by decide) (by omega) (fun h896 => ?_) (fun h896 => ?_)
        · exfalso; rw [if_pos rfl] at e3; omega
        · skip
          refine r_aload_n (pc := 899) dL_law_899 rfl ?_
          refine r_bipush (pc := 900) dL_law_900 (by decide) ?_
          refine i_V1if (pc := 902) okX11_count inX11_count selX11_count q684 dL_law_902 (sub_m hs1 _ _ _ _ _ _) (by exact a3.1.1.1) rfl (by decide) (Nat.le_of_ble_eq_true rfl) (sX11_count (G := G) (C := (K1, n)) (I := I3) (P := P3) (L := L3) (h := a3.1)) (fun r4 I4 P4 L4 hq4 => ?_)
          dsimp only
          obtain ⟨e4, a4⟩ := at_count a3 (by omega) hq4
          rw [mg_mg, mg_mg, mg_mg]
          refine r_if_ne (pc := 905) 912 dL_law_905 (by decide) (by omega) (fun h905 => ?_) (fun h905 => ?_)
          · exfalso; rw [if_neg (by omega), if_pos rfl] at e4; omega
          · skip
            refine r_iconst (pc := 908) dL_law_908 ?_
            refine r_goto (pc := 909) 913 dL_law_909 (by decide) ?_
            refine r_istore (pc := 913) dL_law_913 (by decide) ?_
            refine r_iconst (pc := 915) dL_law_915 ?_
            refine r_istore (pc := 916) dL_law_916 (by decide) ?_
            exact st918 R' Y' 4 0 _ I4 P4 L4 (by omega) rfl a4
  obtain ⟨l0, hl0⟩ : ∃ l0 : Int, (rdY G Ic Lc).1.2.2.1 = l0 := ⟨_, rfl⟩
  have hl6 : 0 ≤ (rdY G Ic Lc).1.2.2.1 ∧ (rdY G Ic Lc).1.2.2.1 < 6 := hA.1.2.1.1.2.2.1
  have st850 : ∀ (d k : Nat) (i Y' : Int) (x16 : Option Value) (Ic : MI) (Pc : MP) (Lc : ML), k + d = D → i = (k : Int) → AtS G (K1, n) R (runF T d) Y' Ic Pc Lc → PaL (rdY G Ic Lc).1 T l0 d → Wd G ⟨RL, nm, "([I)Z"⟩ cL_law 17 (some .boolean) 48 Z Q 850 [some (.ref b), some (.ref (gB G)), some (.int (zI (nf : Int))), some (.int (zI (m : Int))), some (.int (zI fi)), some (.int (zI he)), some (.int (zI te)), none, none, none, none, none, none, none, some (.int (zI (D : Int))), some (.int (zI i)), x16] [] (K, n) (mg K1 Ic Is) (mg K1 Pc Ps) (mg K1 Lc Ls) := by
    intro d
    induction d with
    | zero =>
      intro k i Y' x16 Ic Pc Lc hd hi hA2 hp
      refine r_iload (pc := 850) dL_law_850 rfl ?_
      refine r_iload (pc := 852) dL_law_852 rfl ?_
      refine r_icmp_ge (pc := 854) 873 dL_law_854 (by decide) (by omega) (by omega) (fun h854 => ?_) (fun h854 => ?_)
      · skip
        exact st873 _ _ _ Ic Pc Lc hA2 hp.2.2.1
      · exfalso; omega
    | succ d ih =>
      intro k i Y' x16 Ic Pc Lc hd hi hA2 hp
      refine r_iload (pc := 850) dL_law_850 rfl ?_
      refine r_iload (pc := 852) dL_law_852 rfl ?_
      refine r_icmp_ge (pc := 854) 873 dL_law_854 (by decide) (by omega) (by omega) (fun h854 => ?_) (fun h854 => ?_)
      · exfalso; omega
      · skip
        refine r_aload_n (pc := 857) dL_law_857 rfl ?_
        refine i_V0if (pc := 858) okX11_undo inX11_undo selX11_undo q505 dL_law_858 (sub_m hs1 _ _ _ _ _ _) (by exact hA2.1.1.1) rfl (by decide) (Nat.le_of_ble_eq_true rfl) (sX11_undo (G := G) (C := (K1, n)) (I := Ic) (P := Pc) (L := Lc) (h := hA2.1)) (fun r1 I1 P1 L1 hq => ?_)
        dsimp only
        obtain ⟨e1, a1, p1⟩ := at_undo1 hA2 hp (by omega) hq
        rw [mg_mg, mg_mg, mg_mg]
        refine r_iconst (pc := 861) dL_law_861 ?_
        refine r_icmp_eq (pc := 862) 867 dL_law_862 (by decide) (by omega) (by omega) (fun h862 => ?_) (fun h862 => ?_)
        · skip
          refine r_iinc (pc := 867) dL_law_867 rfl ?_
          refine r_goto (pc := 870) 850 dL_law_870 (by decide) ?_
          exact ih (k + 1) _ _ _ I1 P1 L1 (by omega) (by omega) a1 p1
        · exfalso; omega
  have st827 : ∀ (d k : Nat) (i : Int) (x16 : Option Value) (Ic : MI) (Pc : MP) (Lc : ML), k + d = D → i = (k : Int) → AtS G (K1, n) R (runF T k) (Y + 20 * (k : Int)) Ic Pc Lc → PaL (rdY G Ic Lc).1 T l0 k → Wd G ⟨RL, nm, "([I)Z"⟩ cL_law 17 (some .boolean) 48 Z Q 827 [some (.ref b), some (.ref (gB G)), some (.int (zI (nf : Int))), some (.int (zI (m : Int))), some (.int (zI fi)), some (.int (zI he)), some (.int (zI te)), none, none, none, none, none, none, none, some (.int (zI (D : Int))), some (.int (zI i)), x16] [] (K, n) (mg K1 Ic Is) (mg K1 Pc Ps) (mg K1 Lc Ls) := by
    intro d
    induction d with
    | zero =>
      intro k i x16 Ic Pc Lc hd hi hA2 hp
      obtain rfl : k = D := by omega
      refine r_iload (pc := 827) dL_law_827 rfl ?_
      refine r_iload (pc := 829) dL_law_829 rfl ?_
      refine r_icmp_ge (pc := 831) 847 dL_law_831 (by decide) (by omega) (by omega) (fun h831 => ?_) (fun h831 => ?_)
      · skip
        refine r_iconst (pc := 847) dL_law_847 ?_
        refine r_istore (pc := 848) dL_law_848 (by decide) ?_
        exact st850 k 0 _ _ _ Ic Pc Lc (by omega) rfl hA2 hp
      · exfalso; omega
    | succ d ih =>
      intro k i x16 Ic Pc Lc hd hi hA2 hp
      have hwr := wantF_in (FI_runF hFT k) false
      have hz2 := hA2.sz
      refine r_iload (pc := 827) dL_law_827 rfl ?_
      refine r_iload (pc := 829) dL_law_829 rfl ?_
      refine r_icmp_ge (pc := 831) 847 dL_law_831 (by decide) (by omega) (by omega) (fun h831 => ?_) (fun h831 => ?_)
      · exfalso; omega
      · skip
        refine r_aload_n (pc := 834) dL_law_834 rfl ?_
        refine r_iconst (pc := 835) dL_law_835 ?_
        refine i_V1if (pc := 836) okX11_pass inX11_pass selX11_pass q344 dL_law_836 (sub_m hs1 _ _ _ _ _ _) (by exact hA2.1.1.1) rfl (by decide) (Nat.le_of_ble_eq_true rfl) (sX11_pass (G := G) (C := (K1, n)) (I := Ic) (P := Pc) (L := Lc) (h := hA2.1)) (fun r1 I1 P1 L1 hq => ?_)
        dsimp only
        obtain ⟨e1, a1, g1⟩ := at_pass1 hA2 hq
        rw [mg_mg, mg_mg, mg_mg]
        refine r_istore (pc := 839) dL_law_839 (by decide) ?_
        refine r_iinc (pc := 841) dL_law_841 rfl ?_
        refine r_goto (pc := 844) 827 dL_law_844 (by decide) ?_
        exact ih (k + 1) _ _ I1 P1 L1 (by omega) (by omega) (by rw [show Y + 20 * ((k + 1 : Nat) : Int) = Y + 20 * (k : Int) + 20 by omega]; exact a1) (by rw [g1]; exact pa_go hp (by omega) (by rw [hz2.1]; exact hz2.2.1))
  refine r_aload_n (pc := 811) dL_law_811 rfl ?_
  refine r_bipush (pc := 812) dL_law_812 (by decide) ?_
  refine i_S2ix (pc := 814) okL_cell staL_cell q692 dL_law_814 (by decide) (Nat.le_of_ble_eq_true rfl) (sL_cell (k := 25) hKb (hsc _)) ?_
  refine r_bipush (pc := 817) dL_law_817 (by decide) ?_
  refine i_S2ix (pc := 819) okL_up staL_up q696 dL_law_819 (by decide) (Nat.le_of_ble_eq_true rfl) (sL_up) ?_
  rw [hD]
  refine r_istore (pc := 822) dL_law_822 (by decide) ?_
  refine r_iconst (pc := 824) dL_law_824 ?_
  refine r_istore (pc := 825) dL_law_825 (by decide) ?_
  exact st827 D 0 _ _ Ic Pc Lc (by omega) rfl (by rw [show Y + 20 * ((0 : Nat) : Int) = Y by omega]; exact hA) ⟨by omega, by rw [hl0]; omega, hu0, hA.2.2, fun i hi => absurd hi (Nat.not_lt_zero i)⟩

