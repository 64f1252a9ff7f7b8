/-! the law's cases: class and reference answer alike, what holds between the calls is kept -/
theorem cs_word {G : WG} {nm : String} {b m i L : Nat} {K1 K2 K : Nat → Option Kd} {n : Nat × Nat} {Z : Nat × Nat} {Q : Post} {sx : Nat → Int} {Is : MI} {Ps : MP} {Ls : ML} {Y : Int} {Ic : MI} {Pc : MP} {Lc : ML} {Im : MI} {Pm : MP} {Lm : ML} (hX : LX G b L K1 K2 K n sx Is) (hZ : LZ G m K1 K2 n Y Ic Pc Lc Im Pm Lm) (hi : i + 7 ≤ L) (hYi : Y ≤ 20 * (i : Int)) (hN : ∀ (Y' : Int) (Ic' : MI) (Pc' : MP) (Lc' : ML) (Im' : MI) (Lm' : ML), Y' ≤ Y + 20 → LZ G m K1 K2 n Y' Ic' Pc' Lc' Im' Pm Lm' → WL G nm b m i K1 K2 K n Z Q Is Ps Ls 1253 Ic' Pc' Lc' Im' Pm Lm') : WL G nm b m i K1 K2 K n Z Q Is Ps Ls 851 Ic Pc Lc Im Pm Lm := by
  obtain ⟨hs1, hs2, hdi, hKb, hL, hxi, hsc⟩ := hX
  obtain ⟨hYI, hRf, hR, hY0⟩ := hZ
  have hSI := YI_SI (L := Lc) hYI
  have hr0 := hsc Ic Im Pc Y hYI
  have hx1 := hxi (i + 1) (by omega)
  have hx2 := hxi (i + 2) (by omega)
  have hx3 := hxi (i + 3) (by omega)
  have hx4 := hxi (i + 4) (by omega)
  have hx5 := hxi (i + 5) (by omega)
  have hx6 := hxi (i + 6) (by omega)
  have hF : FI (Im (m + 1)) Y := hR.1.2.1
  have hBI : BI (Im (m + 1)) := hR.1.2.2.1
  have hRR := rel_word hR hSI (rowL (sx (i + 1)) (sx (i + 2)) (sx (i + 3)) (sx (i + 4)) (sx (i + 5)) (sx (i + 6)))
  unfold WL
  refine r_aload_n (pc := 851) dL_law_851 rfl ?_
  refine r_aload_n (pc := 852) dL_law_852 rfl ?_
  refine r_iload_n (pc := 853) dL_law_853 rfl ?_
  refine r_iconst (pc := 854) dL_law_854 ?_
  refine r_iadd (pc := 855) dL_law_855 ?_
  refine r_iald (j := i + 1) (pc := 856) dL_law_856 (by exact hKb) (by omega) (by omega) (by omega) ?_
  rw [hr0 (i + 1) (by omega)]
  refine r_aload_n (pc := 857) dL_law_857 rfl ?_
  refine r_iload_n (pc := 858) dL_law_858 rfl ?_
  refine r_iconst (pc := 859) dL_law_859 ?_
  refine r_iadd (pc := 860) dL_law_860 ?_
  refine r_iald (j := i + 2) (pc := 861) dL_law_861 (by exact hKb) (by omega) (by omega) (by omega) ?_
  rw [hr0 (i + 2) (by omega)]
  refine r_aload_n (pc := 862) dL_law_862 rfl ?_
  refine r_iload_n (pc := 863) dL_law_863 rfl ?_
  refine r_iconst (pc := 864) dL_law_864 ?_
  refine r_iadd (pc := 865) dL_law_865 ?_
  refine r_iald (j := i + 3) (pc := 866) dL_law_866 (by exact hKb) (by omega) (by omega) (by omega) ?_
  rw [hr0 (i + 3) (by omega)]
  refine r_aload_n (pc := 867) dL_law_867 rfl ?_
  refine r_iload_n (pc := 868) dL_law_868 rfl ?_
  refine r_iconst (pc := 869) dL_law_869 ?_
  refine r_iadd (pc := 870) dL_law_870 ?_
  refine r_iald (j := i + 4) (pc := 871) dL_law_871 (by exact hKb) (by omega) (by omega) (by omega) ?_
  rw [hr0 (i + 4) (by omega)]
  refine r_aload_n (pc := 872) dL_law_872 rfl ?_
  refine r_iload_n (pc := 873) dL_law_873 rfl ?_
  refine r_iconst (pc := 874) dL_law_874 ?_
  refine r_iadd (pc := 875) dL_law_875 ?_
  refine r_iald (j := i + 5) (pc := 876) dL_law_876 (by exact hKb) (by omega) (by omega) (by omega) ?_
  rw [hr0 (i + 5) (by omega)]
  refine r_aload_n (pc := 877) dL_law_877 rfl ?_
  refine r_iload_n (pc := 878) dL_law_878 rfl ?_
  refine r_bipush (pc := 879) dL_law_879 (by decide) ?_
  refine r_iadd (pc := 881) dL_law_881 ?_
  refine r_iald (j := i + 6) (pc := 882) dL_law_882 (by exact hKb) (by omega) (by omega) (by omega) ?_
  rw [hr0 (i + 6) (by omega)]
  refine i_V6if (pc := 883) okX11_word inX11_word selX11_word q921 dL_law_883 (sub_1 hs1 _ _ _ _ _ _ _ _ _) (by exact hYI.1.1) rfl (by decide) (Nat.le_of_ble_eq_true rfl) (sX11_word (G := G) (C := (K1, n)) (I := Ic) (P := Pc) (L := Lc)) (fun r1 I1 P1 L1 hq => ?_)
  dsimp only
  obtain ⟨q1, q2, q3⟩ := hq
  rw [mg_1, mg_1, mg_1]
  have hr1 := hsc I1 Im P1 Y q3
  refine r_aload_n (pc := 886) dL_law_886 rfl ?_
  refine r_aload_n (pc := 887) dL_law_887 rfl ?_
  refine r_iload_n (pc := 888) dL_law_888 rfl ?_
  refine r_iconst (pc := 889) dL_law_889 ?_
  refine r_iadd (pc := 890) dL_law_890 ?_
  refine r_iald (j := i + 1) (pc := 891) dL_law_891 (by exact hKb) (by omega) (by omega) (by omega) ?_
  rw [hr1 (i + 1) (by omega)]
  refine r_aload_n (pc := 892) dL_law_892 rfl ?_
  refine r_iload_n (pc := 893) dL_law_893 rfl ?_
  refine r_iconst (pc := 894) dL_law_894 ?_
  refine r_iadd (pc := 895) dL_law_895 ?_
  refine r_iald (j := i + 2) (pc := 896) dL_law_896 (by exact hKb) (by omega) (by omega) (by omega) ?_
  rw [hr1 (i + 2) (by omega)]
  refine r_aload_n (pc := 897) dL_law_897 rfl ?_
  refine r_iload_n (pc := 898) dL_law_898 rfl ?_
  refine r_iconst (pc := 899) dL_law_899 ?_
  refine r_iadd (pc := 900) dL_law_900 ?_
  refine r_iald (j := i + 3) (pc := 901) dL_law_901 (by exact hKb) (by omega) (by omega) (by omega) ?_
  rw [hr1 (i + 3) (by omega)]
  refine r_aload_n (pc := 902) dL_law_902 rfl ?_
  refine r_iload_n (pc := 903) dL_law_903 rfl ?_
  refine r_iconst (pc := 904) dL_law_904 ?_
  refine r_iadd (pc := 905) dL_law_905 ?_
  refine r_iald (j := i + 4) (pc := 906) dL_law_906 (by exact hKb) (by omega) (by omega) (by omega) ?_
  rw [hr1 (i + 4) (by omega)]
  refine r_aload_n (pc := 907) dL_law_907 rfl ?_
  refine r_iload_n (pc := 908) dL_law_908 rfl ?_
  refine r_iconst (pc := 909) dL_law_909 ?_
  refine r_iadd (pc := 910) dL_law_910 ?_
  refine r_iald (j := i + 5) (pc := 911) dL_law_911 (by exact hKb) (by omega) (by omega) (by omega) ?_
  rw [hr1 (i + 5) (by omega)]
  refine r_aload_n (pc := 912) dL_law_912 rfl ?_
  refine r_iload_n (pc := 913) dL_law_913 rfl ?_
  refine r_bipush (pc := 914) dL_law_914 (by decide) ?_
  refine r_iadd (pc := 916) dL_law_916 ?_
  refine r_iald (j := i + 6) (pc := 917) dL_law_917 (by exact hKb) (by omega) (by omega) (by omega) ?_
  rw [hr1 (i + 6) (by omega)]
  refine i_V6if (pc := 918) okX12_word inX12_word selX12_word q1344 dL_law_918 (sub_2 hdi hs2 _ _ _ _ _ _ _ _ _) (by exact hRf.2.1) rfl (by decide) (Nat.le_of_ble_eq_true rfl) (sX12_word (G := G) (C := (K2, n)) (I := Im) (P := Pm) (L := Lm)) (fun r2 I2 P2 L2 hq => ?_)
  dsimp only
  obtain ⟨w1, w2, w3⟩ := hq
  rw [mg_2 hdi, mg_2 hdi, mg_2 hdi]
  subst w3
  have e := q1.trans (hRR.1.trans w1.symm)
  subst e
  exact r_jeq (pc := 921) 1253 dL_law_921 (by decide) (hN Y I1 P1 L1 I2 L2 (by omega) ⟨q3, hRf, by rw [q2, w2]; exact hRR.2, by omega⟩)
theorem cs_toldOn {G : WG} {nm : String} {b m i L : Nat} {K1 K2 K : Nat → Option Kd} {n : Nat × Nat} {Z : Nat × Nat} {Q : Post} {sx : Nat → Int} {Is : MI} {Ps : MP} {Ls : ML} {Y : Int} {Ic : MI} {Pc : MP} {Lc : ML} {Im : MI} {Pm : MP} {Lm : ML} (hX : LX G b L K1 K2 K n sx Is) (hZ : LZ G m K1 K2 n Y Ic Pc Lc Im Pm Lm) (hi : i + 7 ≤ L) (hYi : Y ≤ 20 * (i : Int)) (hN : ∀ (Y' : Int) (Ic' : MI) (Pc' : MP) (Lc' : ML) (Im' : MI) (Lm' : ML), Y' ≤ Y + 20 → LZ G m K1 K2 n Y' Ic' Pc' Lc' Im' Pm Lm' → WL G nm b m i K1 K2 K n Z Q Is Ps Ls 1253 Ic' Pc' Lc' Im' Pm Lm') : WL G nm b m i K1 K2 K n Z Q Is Ps Ls 926 Ic Pc Lc Im Pm Lm := by
  obtain ⟨hs1, hs2, hdi, hKb, hL, hxi, hsc⟩ := hX
  obtain ⟨hYI, hRf, hR, hY0⟩ := hZ
  have hSI := YI_SI (L := Lc) hYI
  have hr0 := hsc Ic Im Pc Y hYI
  have hx1 := hxi (i + 1) (by omega)
  have hx2 := hxi (i + 2) (by omega)
  have hx3 := hxi (i + 3) (by omega)
  have hF : FI (Im (m + 1)) Y := hR.1.2.1
  have hBI : BI (Im (m + 1)) := hR.1.2.2.1
  have hRR := rel_toldOn hR (sx (i + 1)) (sx (i + 2)) (sx (i + 3))
  unfold WL
  refine r_aload_n (pc := 926) dL_law_926 rfl ?_
  refine r_aload_n (pc := 927) dL_law_927 rfl ?_
  refine r_iload_n (pc := 928) dL_law_928 rfl ?_
  refine r_iconst (pc := 929) dL_law_929 ?_
  refine r_iadd (pc := 930) dL_law_930 ?_
  refine r_iald (j := i + 1) (pc := 931) dL_law_931 (by exact hKb) (by omega) (by omega) (by omega) ?_
  rw [hr0 (i + 1) (by omega)]
  refine r_aload_n (pc := 932) dL_law_932 rfl ?_
  refine r_iload_n (pc := 933) dL_law_933 rfl ?_
  refine r_iconst (pc := 934) dL_law_934 ?_
  refine r_iadd (pc := 935) dL_law_935 ?_
  refine r_iald (j := i + 2) (pc := 936) dL_law_936 (by exact hKb) (by omega) (by omega) (by omega) ?_
  rw [hr0 (i + 2) (by omega)]
  refine r_aload_n (pc := 937) dL_law_937 rfl ?_
  refine r_iload_n (pc := 938) dL_law_938 rfl ?_
  refine r_iconst (pc := 939) dL_law_939 ?_
  refine r_iadd (pc := 940) dL_law_940 ?_
  refine r_iald (j := i + 3) (pc := 941) dL_law_941 (by exact hKb) (by omega) (by omega) (by omega) ?_
  rw [hr0 (i + 3) (by omega)]
  refine i_V3if (pc := 942) okX11_toldOn inX11_toldOn selX11_toldOn q935 dL_law_942 (sub_1 hs1 _ _ _ _ _ _ _ _ _) (by exact hYI.1.1) rfl (by decide) (Nat.le_of_ble_eq_true rfl) (sX11_toldOn (G := G) (C := (K1, n)) (I := Ic) (P := Pc) (L := Lc)) (fun r1 I1 P1 L1 hq => ?_)
  dsimp only
  obtain ⟨q1, q2, q3⟩ := hq
  rw [mg_1, mg_1, mg_1]
  have hr1 := hsc I1 Im P1 Y q3
  refine r_aload_n (pc := 945) dL_law_945 rfl ?_
  refine r_aload_n (pc := 946) dL_law_946 rfl ?_
  refine r_iload_n (pc := 947) dL_law_947 rfl ?_
  refine r_iconst (pc := 948) dL_law_948 ?_
  refine r_iadd (pc := 949) dL_law_949 ?_
  refine r_iald (j := i + 1) (pc := 950) dL_law_950 (by exact hKb) (by omega) (by omega) (by omega) ?_
  rw [hr1 (i + 1) (by omega)]
  refine r_aload_n (pc := 951) dL_law_951 rfl ?_
  refine r_iload_n (pc := 952) dL_law_952 rfl ?_
  refine r_iconst (pc := 953) dL_law_953 ?_
  refine r_iadd (pc := 954) dL_law_954 ?_
  refine r_iald (j := i + 2) (pc := 955) dL_law_955 (by exact hKb) (by omega) (by omega) (by omega) ?_
  rw [hr1 (i + 2) (by omega)]
  refine r_aload_n (pc := 956) dL_law_956 rfl ?_
  refine r_iload_n (pc := 957) dL_law_957 rfl ?_
  refine r_iconst (pc := 958) dL_law_958 ?_
  refine r_iadd (pc := 959) dL_law_959 ?_
  refine r_iald (j := i + 3) (pc := 960) dL_law_960 (by exact hKb) (by omega) (by omega) (by omega) ?_
  rw [hr1 (i + 3) (by omega)]
  refine i_V3if (pc := 961) okX12_toldOn inX12_toldOn selX12_toldOn q1353 dL_law_961 (sub_2 hdi hs2 _ _ _ _ _ _ _ _ _) (by exact hRf.2.1) rfl (by decide) (Nat.le_of_ble_eq_true rfl) (sX12_toldOn (G := G) (C := (K2, n)) (I := Im) (P := Pm) (L := Lm)) (fun r2 I2 P2 L2 hq => ?_)
  dsimp only
  obtain ⟨w1, w2, w3⟩ := hq
  rw [mg_2 hdi, mg_2 hdi, mg_2 hdi]
  subst w3
  have e := q1.trans (hRR.1.trans w1.symm)
  subst e
  exact r_jeq (pc := 964) 1253 dL_law_964 (by decide) (hN Y I1 P1 L1 I2 L2 (by omega) ⟨q3, hRf, by rw [q2, w2]; exact hRR.2, by omega⟩)
theorem cs_apart {G : WG} {nm : String} {b m i L : Nat} {K1 K2 K : Nat → Option Kd} {n : Nat × Nat} {Z : Nat × Nat} {Q : Post} {sx : Nat → Int} {Is : MI} {Ps : MP} {Ls : ML} {Y : Int} {Ic : MI} {Pc : MP} {Lc : ML} {Im : MI} {Pm : MP} {Lm : ML} (hX : LX G b L K1 K2 K n sx Is) (hZ : LZ G m K1 K2 n Y Ic Pc Lc Im Pm Lm) (hi : i + 7 ≤ L) (hYi : Y ≤ 20 * (i : Int)) (hN : ∀ (Y' : Int) (Ic' : MI) (Pc' : MP) (Lc' : ML) (Im' : MI) (Lm' : ML), Y' ≤ Y + 20 → LZ G m K1 K2 n Y' Ic' Pc' Lc' Im' Pm Lm' → WL G nm b m i K1 K2 K n Z Q Is Ps Ls 1253 Ic' Pc' Lc' Im' Pm Lm') : WL G nm b m i K1 K2 K n Z Q Is Ps Ls 969 Ic Pc Lc Im Pm Lm := by
  obtain ⟨hs1, hs2, hdi, hKb, hL, hxi, hsc⟩ := hX
  obtain ⟨hYI, hRf, hR, hY0⟩ := hZ
  have hSI := YI_SI (L := Lc) hYI
  have hr0 := hsc Ic Im Pc Y hYI
  have hx1 := hxi (i + 1) (by omega)
  have hx2 := hxi (i + 2) (by omega)
  have hF : FI (Im (m + 1)) Y := hR.1.2.1
  have hBI : BI (Im (m + 1)) := hR.1.2.2.1
  have hRR := rel_apart hR (sx (i + 1)) (sx (i + 2))
  unfold WL
  refine r_aload_n (pc := 969) dL_law_969 rfl ?_
  refine r_aload_n (pc := 970) dL_law_970 rfl ?_
  refine r_iload_n (pc := 971) dL_law_971 rfl ?_
  refine r_iconst (pc := 972) dL_law_972 ?_
  refine r_iadd (pc := 973) dL_law_973 ?_
  refine r_iald (j := i + 1) (pc := 974) dL_law_974 (by exact hKb) (by omega) (by omega) (by omega) ?_
  rw [hr0 (i + 1) (by omega)]
  refine r_aload_n (pc := 975) dL_law_975 rfl ?_
  refine r_iload_n (pc := 976) dL_law_976 rfl ?_
  refine r_iconst (pc := 977) dL_law_977 ?_
  refine r_iadd (pc := 978) dL_law_978 ?_
  refine r_iald (j := i + 2) (pc := 979) dL_law_979 (by exact hKb) (by omega) (by omega) (by omega) ?_
  rw [hr0 (i + 2) (by omega)]
  refine i_V2if (pc := 980) okX11_apart inX11_apart selX11_apart q950 dL_law_980 (sub_1 hs1 _ _ _ _ _ _ _ _ _) (by exact hYI.1.1) rfl (by decide) (Nat.le_of_ble_eq_true rfl) (sX11_apart (G := G) (C := (K1, n)) (I := Ic) (P := Pc) (L := Lc)) (fun r1 I1 P1 L1 hq => ?_)
  dsimp only
  obtain ⟨q1, q2, q3⟩ := hq
  rw [mg_1, mg_1, mg_1]
  have hr1 := hsc I1 Im P1 Y q3
  refine r_aload_n (pc := 983) dL_law_983 rfl ?_
  refine r_aload_n (pc := 984) dL_law_984 rfl ?_
  refine r_iload_n (pc := 985) dL_law_985 rfl ?_
  refine r_iconst (pc := 986) dL_law_986 ?_
  refine r_iadd (pc := 987) dL_law_987 ?_
  refine r_iald (j := i + 1) (pc := 988) dL_law_988 (by exact hKb) (by omega) (by omega) (by omega) ?_
  rw [hr1 (i + 1) (by omega)]
  refine r_aload_n (pc := 989) dL_law_989 rfl ?_
  refine r_iload_n (pc := 990) dL_law_990 rfl ?_
  refine r_iconst (pc := 991) dL_law_991 ?_
  refine r_iadd (pc := 992) dL_law_992 ?_
  refine r_iald (j := i + 2) (pc := 993) dL_law_993 (by exact hKb) (by omega) (by omega) (by omega) ?_
  rw [hr1 (i + 2) (by omega)]
  refine i_V2if (pc := 994) okX12_apart inX12_apart selX12_apart q1362 dL_law_994 (sub_2 hdi hs2 _ _ _ _ _ _ _ _ _) (by exact hRf.2.1) rfl (by decide) (Nat.le_of_ble_eq_true rfl) (sX12_apart (G := G) (C := (K2, n)) (I := Im) (P := Pm) (L := Lm)) (fun r2 I2 P2 L2 hq => ?_)
  dsimp only
  obtain ⟨w1, w2, w3⟩ := hq
  rw [mg_2 hdi, mg_2 hdi, mg_2 hdi]
  subst w3
  have e := q1.trans (hRR.1.trans w1.symm)
  subst e
  exact r_jeq (pc := 997) 1253 dL_law_997 (by decide) (hN Y I1 P1 L1 I2 L2 (by omega) ⟨q3, hRf, by rw [q2, w2]; exact hRR.2, by omega⟩)
theorem cs_bears {G : WG} {nm : String} {b m i L : Nat} {K1 K2 K : Nat → Option Kd} {n : Nat × Nat} {Z : Nat × Nat} {Q : Post} {sx : Nat → Int} {Is : MI} {Ps : MP} {Ls : ML} {Y : Int} {Ic : MI} {Pc : MP} {Lc : ML} {Im : MI} {Pm : MP} {Lm : ML} (hX : LX G b L K1 K2 K n sx Is) (hZ : LZ G m K1 K2 n Y Ic Pc Lc Im Pm Lm) (hi : i + 7 ≤ L) (hYi : Y ≤ 20 * (i : Int)) (hN : ∀ (Y' : Int) (Ic' : MI) (Pc' : MP) (Lc' : ML) (Im' : MI) (Lm' : ML), Y' ≤ Y + 20 → LZ G m K1 K2 n Y' Ic' Pc' Lc' Im' Pm Lm' → WL G nm b m i K1 K2 K n Z Q Is Ps Ls 1253 Ic' Pc' Lc' Im' Pm Lm') : WL G nm b m i K1 K2 K n Z Q Is Ps Ls 1002 Ic Pc Lc Im Pm Lm := by
  obtain ⟨hs1, hs2, hdi, hKb, hL, hxi, hsc⟩ := hX
  obtain ⟨hYI, hRf, hR, hY0⟩ := hZ
  have hSI := YI_SI (L := Lc) hYI
  have hr0 := hsc Ic Im Pc Y hYI
  have hF : FI (Im (m + 1)) Y := hR.1.2.1
  have hBI : BI (Im (m + 1)) := hR.1.2.2.1
  have hRR := rel_bears hR hSI
  unfold WL
  refine r_aload_n (pc := 1002) dL_law_1002 rfl ?_
  refine i_V0if (pc := 1003) okX11_bears inX11_bears selX11_bears q959 dL_law_1003 (sub_1 hs1 _ _ _ _ _ _ _ _ _) (by exact hYI.1.1) rfl (by decide) (Nat.le_of_ble_eq_true rfl) (sX11_bears (G := G) (C := (K1, n)) (I := Ic) (P := Pc) (L := Lc)) (fun r1 I1 P1 L1 hq => ?_)
  dsimp only
  obtain ⟨q1, q2, q3⟩ := hq
  rw [mg_1, mg_1, mg_1]
  have hr1 := hsc I1 Im P1 Y q3
  refine r_aload_n (pc := 1006) dL_law_1006 rfl ?_
  refine i_V0if (pc := 1007) okX12_bears inX12_bears selX12_bears q1370 dL_law_1007 (sub_2 hdi hs2 _ _ _ _ _ _ _ _ _) (by exact hRf.2.1) rfl (by decide) (Nat.le_of_ble_eq_true rfl) (sX12_bears (G := G) (C := (K2, n)) (I := Im) (P := Pm) (L := Lm)) (fun r2 I2 P2 L2 hq => ?_)
  dsimp only
  obtain ⟨w1, w2, w3⟩ := hq
  rw [mg_2 hdi, mg_2 hdi, mg_2 hdi]
  subst w3
  have e := q1.trans (hRR.1.trans w1.symm)
  subst e
  exact r_jeq (pc := 1010) 1253 dL_law_1010 (by decide) (hN Y I1 P1 L1 I2 L2 (by omega) ⟨q3, hRf, by rw [q2, w2]; exact hRR.2, by omega⟩)
theorem cs_meant {G : WG} {nm : String} {b m i L : Nat} {K1 K2 K : Nat → Option Kd} {n : Nat × Nat} {Z : Nat × Nat} {Q : Post} {sx : Nat → Int} {Is : MI} {Ps : MP} {Ls : ML} {Y : Int} {Ic : MI} {Pc : MP} {Lc : ML} {Im : MI} {Pm : MP} {Lm : ML} (hX : LX G b L K1 K2 K n sx Is) (hZ : LZ G m K1 K2 n Y Ic Pc Lc Im Pm Lm) (hi : i + 7 ≤ L) (hYi : Y ≤ 20 * (i : Int)) (hN : ∀ (Y' : Int) (Ic' : MI) (Pc' : MP) (Lc' : ML) (Im' : MI) (Lm' : ML), Y' ≤ Y + 20 → LZ G m K1 K2 n Y' Ic' Pc' Lc' Im' Pm Lm' → WL G nm b m i K1 K2 K n Z Q Is Ps Ls 1253 Ic' Pc' Lc' Im' Pm Lm') : WL G nm b m i K1 K2 K n Z Q Is Ps Ls 1015 Ic Pc Lc Im Pm Lm := by
  obtain ⟨hs1, hs2, hdi, hKb, hL, hxi, hsc⟩ := hX
  obtain ⟨hYI, hRf, hR, hY0⟩ := hZ
  have hSI := YI_SI (L := Lc) hYI
  have hr0 := hsc Ic Im Pc Y hYI
  have hx1 := hxi (i + 1) (by omega)
  have hx2 := hxi (i + 2) (by omega)
  have hx3 := hxi (i + 3) (by omega)
  have hx4 := hxi (i + 4) (by omega)
  have hx5 := hxi (i + 5) (by omega)
  have hx6 := hxi (i + 6) (by omega)
  have hF : FI (Im (m + 1)) Y := hR.1.2.1
  have hBI : BI (Im (m + 1)) := hR.1.2.2.1
  have hRR := rel_meant hR (rowL (sx (i + 1)) (sx (i + 2)) (sx (i + 3)) (sx (i + 4)) (sx (i + 5)) (sx (i + 6)))
  unfold WL
  refine r_aload_n (pc := 1015) dL_law_1015 rfl ?_
  refine r_aload_n (pc := 1016) dL_law_1016 rfl ?_
  refine r_iload_n (pc := 1017) dL_law_1017 rfl ?_
  refine r_iconst (pc := 1018) dL_law_1018 ?_
  refine r_iadd (pc := 1019) dL_law_1019 ?_
  refine r_iald (j := i + 1) (pc := 1020) dL_law_1020 (by exact hKb) (by omega) (by omega) (by omega) ?_
  rw [hr0 (i + 1) (by omega)]
  refine r_aload_n (pc := 1021) dL_law_1021 rfl ?_
  refine r_iload_n (pc := 1022) dL_law_1022 rfl ?_
  refine r_iconst (pc := 1023) dL_law_1023 ?_
  refine r_iadd (pc := 1024) dL_law_1024 ?_
  refine r_iald (j := i + 2) (pc := 1025) dL_law_1025 (by exact hKb) (by omega) (by omega) (by omega) ?_
  rw [hr0 (i + 2) (by omega)]
  refine r_aload_n (pc := 1026) dL_law_1026 rfl ?_
  refine r_iload_n (pc := 1027) dL_law_1027 rfl ?_
  refine r_iconst (pc := 1028) dL_law_1028 ?_
  refine r_iadd (pc := 1029) dL_law_1029 ?_
  refine r_iald (j := i + 3) (pc := 1030) dL_law_1030 (by exact hKb) (by omega) (by omega) (by omega) ?_
  rw [hr0 (i + 3) (by omega)]
  refine r_aload_n (pc := 1031) dL_law_1031 rfl ?_
  refine r_iload_n (pc := 1032) dL_law_1032 rfl ?_
  refine r_iconst (pc := 1033) dL_law_1033 ?_
  refine r_iadd (pc := 1034) dL_law_1034 ?_
  refine r_iald (j := i + 4) (pc := 1035) dL_law_1035 (by exact hKb) (by omega) (by omega) (by omega) ?_
  rw [hr0 (i + 4) (by omega)]
  refine r_aload_n (pc := 1036) dL_law_1036 rfl ?_
  refine r_iload_n (pc := 1037) dL_law_1037 rfl ?_
  refine r_iconst (pc := 1038) dL_law_1038 ?_
  refine r_iadd (pc := 1039) dL_law_1039 ?_
  refine r_iald (j := i + 5) (pc := 1040) dL_law_1040 (by exact hKb) (by omega) (by omega) (by omega) ?_
  rw [hr0 (i + 5) (by omega)]
  refine r_aload_n (pc := 1041) dL_law_1041 rfl ?_
  refine r_iload_n (pc := 1042) dL_law_1042 rfl ?_
  refine r_bipush (pc := 1043) dL_law_1043 (by decide) ?_
  refine r_iadd (pc := 1045) dL_law_1045 ?_
  refine r_iald (j := i + 6) (pc := 1046) dL_law_1046 (by exact hKb) (by omega) (by omega) (by omega) ?_
  rw [hr0 (i + 6) (by omega)]
  refine i_V6if (pc := 1047) okX11_meant inX11_meant selX11_meant q968 dL_law_1047 (sub_1 hs1 _ _ _ _ _ _ _ _ _) (by exact hYI.1.1) rfl (by decide) (Nat.le_of_ble_eq_true rfl) (sX11_meant (G := G) (C := (K1, n)) (I := Ic) (P := Pc) (L := Lc)) (fun r1 I1 P1 L1 hq => ?_)
  dsimp only
  obtain ⟨q1, q2, q3⟩ := hq
  rw [mg_1, mg_1, mg_1]
  have hr1 := hsc I1 Im P1 Y q3
  refine r_aload_n (pc := 1050) dL_law_1050 rfl ?_
  refine r_aload_n (pc := 1051) dL_law_1051 rfl ?_
  refine r_iload_n (pc := 1052) dL_law_1052 rfl ?_
  refine r_iconst (pc := 1053) dL_law_1053 ?_
  refine r_iadd (pc := 1054) dL_law_1054 ?_
  refine r_iald (j := i + 1) (pc := 1055) dL_law_1055 (by exact hKb) (by omega) (by omega) (by omega) ?_
  rw [hr1 (i + 1) (by omega)]
  refine r_aload_n (pc := 1056) dL_law_1056 rfl ?_
  refine r_iload_n (pc := 1057) dL_law_1057 rfl ?_
  refine r_iconst (pc := 1058) dL_law_1058 ?_
  refine r_iadd (pc := 1059) dL_law_1059 ?_
  refine r_iald (j := i + 2) (pc := 1060) dL_law_1060 (by exact hKb) (by omega) (by omega) (by omega) ?_
  rw [hr1 (i + 2) (by omega)]
  refine r_aload_n (pc := 1061) dL_law_1061 rfl ?_
  refine r_iload_n (pc := 1062) dL_law_1062 rfl ?_
  refine r_iconst (pc := 1063) dL_law_1063 ?_
  refine r_iadd (pc := 1064) dL_law_1064 ?_
  refine r_iald (j := i + 3) (pc := 1065) dL_law_1065 (by exact hKb) (by omega) (by omega) (by omega) ?_
  rw [hr1 (i + 3) (by omega)]
  refine r_aload_n (pc := 1066) dL_law_1066 rfl ?_
  refine r_iload_n (pc := 1067) dL_law_1067 rfl ?_
  refine r_iconst (pc := 1068) dL_law_1068 ?_
  refine r_iadd (pc := 1069) dL_law_1069 ?_
  refine r_iald (j := i + 4) (pc := 1070) dL_law_1070 (by exact hKb) (by omega) (by omega) (by omega) ?_
  rw [hr1 (i + 4) (by omega)]
  refine r_aload_n (pc := 1071) dL_law_1071 rfl ?_
  refine r_iload_n (pc := 1072) dL_law_1072 rfl ?_
  refine r_iconst (pc := 1073) dL_law_1073 ?_
  refine r_iadd (pc := 1074) dL_law_1074 ?_
  refine r_iald (j := i + 5) (pc := 1075) dL_law_1075 (by exact hKb) (by omega) (by omega) (by omega) ?_
  rw [hr1 (i + 5) (by omega)]
  refine r_aload_n (pc := 1076) dL_law_1076 rfl ?_
  refine r_iload_n (pc := 1077) dL_law_1077 rfl ?_
  refine r_bipush (pc := 1078) dL_law_1078 (by decide) ?_
  refine r_iadd (pc := 1080) dL_law_1080 ?_
  refine r_iald (j := i + 6) (pc := 1081) dL_law_1081 (by exact hKb) (by omega) (by omega) (by omega) ?_
  rw [hr1 (i + 6) (by omega)]
  refine i_V6if (pc := 1082) okX12_meant inX12_meant selX12_meant q1375 dL_law_1082 (sub_2 hdi hs2 _ _ _ _ _ _ _ _ _) (by exact hRf.2.1) rfl (by decide) (Nat.le_of_ble_eq_true rfl) (sX12_meant (G := G) (C := (K2, n)) (I := Im) (P := Pm) (L := Lm)) (fun r2 I2 P2 L2 hq => ?_)
  dsimp only
  obtain ⟨w1, w2, w3⟩ := hq
  rw [mg_2 hdi, mg_2 hdi, mg_2 hdi]
  subst w3
  have e := q1.trans (hRR.1.trans w1.symm)
  subst e
  exact r_jeq (pc := 1085) 1253 dL_law_1085 (by decide) (hN Y I1 P1 L1 I2 L2 (by omega) ⟨q3, hRf, by rw [q2, w2]; exact hRR.2, by omega⟩)
theorem cs_meet {G : WG} {nm : String} {b m i L : Nat} {K1 K2 K : Nat → Option Kd} {n : Nat × Nat} {Z : Nat × Nat} {Q : Post} {sx : Nat → Int} {Is : MI} {Ps : MP} {Ls : ML} {Y : Int} {Ic : MI} {Pc : MP} {Lc : ML} {Im : MI} {Pm : MP} {Lm : ML} (hX : LX G b L K1 K2 K n sx Is) (hZ : LZ G m K1 K2 n Y Ic Pc Lc Im Pm Lm) (hi : i + 7 ≤ L) (hYi : Y ≤ 20 * (i : Int)) (hN : ∀ (Y' : Int) (Ic' : MI) (Pc' : MP) (Lc' : ML) (Im' : MI) (Lm' : ML), Y' ≤ Y + 20 → LZ G m K1 K2 n Y' Ic' Pc' Lc' Im' Pm Lm' → WL G nm b m i K1 K2 K n Z Q Is Ps Ls 1253 Ic' Pc' Lc' Im' Pm Lm') : WL G nm b m i K1 K2 K n Z Q Is Ps Ls 1090 Ic Pc Lc Im Pm Lm := by
  obtain ⟨hs1, hs2, hdi, hKb, hL, hxi, hsc⟩ := hX
  obtain ⟨hYI, hRf, hR, hY0⟩ := hZ
  have hSI := YI_SI (L := Lc) hYI
  have hr0 := hsc Ic Im Pc Y hYI
  have hx1 := hxi (i + 1) (by omega)
  have hx2 := hxi (i + 2) (by omega)
  have hF : FI (Im (m + 1)) Y := hR.1.2.1
  have hBI : BI (Im (m + 1)) := hR.1.2.2.1
  have hRR := rel_meet hR hSI (sx (i + 1)) (sx (i + 2))
  unfold WL
  refine r_aload_n (pc := 1090) dL_law_1090 rfl ?_
  refine r_aload_n (pc := 1091) dL_law_1091 rfl ?_
  refine r_iload_n (pc := 1092) dL_law_1092 rfl ?_
  refine r_iconst (pc := 1093) dL_law_1093 ?_
  refine r_iadd (pc := 1094) dL_law_1094 ?_
  refine r_iald (j := i + 1) (pc := 1095) dL_law_1095 (by exact hKb) (by omega) (by omega) (by omega) ?_
  rw [hr0 (i + 1) (by omega)]
  refine r_aload_n (pc := 1096) dL_law_1096 rfl ?_
  refine r_iload_n (pc := 1097) dL_law_1097 rfl ?_
  refine r_iconst (pc := 1098) dL_law_1098 ?_
  refine r_iadd (pc := 1099) dL_law_1099 ?_
  refine r_iald (j := i + 2) (pc := 1100) dL_law_1100 (by exact hKb) (by omega) (by omega) (by omega) ?_
  rw [hr0 (i + 2) (by omega)]
  refine i_V2if (pc := 1101) okX11_meet inX11_meet selX11_meet q976 dL_law_1101 (sub_1 hs1 _ _ _ _ _ _ _ _ _) (by exact hYI.1.1) rfl (by decide) (Nat.le_of_ble_eq_true rfl) (sX11_meet (G := G) (C := (K1, n)) (I := Ic) (P := Pc) (L := Lc)) (fun r1 I1 P1 L1 hq => ?_)
  dsimp only
  obtain ⟨q1, q2, q3⟩ := hq
  rw [mg_1, mg_1, mg_1]
  have hr1 := hsc I1 Im P1 Y q3
  refine r_aload_n (pc := 1104) dL_law_1104 rfl ?_
  refine r_aload_n (pc := 1105) dL_law_1105 rfl ?_
  refine r_iload_n (pc := 1106) dL_law_1106 rfl ?_
  refine r_iconst (pc := 1107) dL_law_1107 ?_
  refine r_iadd (pc := 1108) dL_law_1108 ?_
  refine r_iald (j := i + 1) (pc := 1109) dL_law_1109 (by exact hKb) (by omega) (by omega) (by omega) ?_
  rw [hr1 (i + 1) (by omega)]
  refine r_aload_n (pc := 1110) dL_law_1110 rfl ?_
  refine r_iload_n (pc := 1111) dL_law_1111 rfl ?_
  refine r_iconst (pc := 1112) dL_law_1112 ?_
  refine r_iadd (pc := 1113) dL_law_1113 ?_
  refine r_iald (j := i + 2) (pc := 1114) dL_law_1114 (by exact hKb) (by omega) (by omega) (by omega) ?_
  rw [hr1 (i + 2) (by omega)]
  refine i_V2if (pc := 1115) okX12_meet inX12_meet selX12_meet q1379 dL_law_1115 (sub_2 hdi hs2 _ _ _ _ _ _ _ _ _) (by exact hRf.2.1) rfl (by decide) (Nat.le_of_ble_eq_true rfl) (sX12_meet (G := G) (C := (K2, n)) (I := Im) (P := Pm) (L := Lm)) (fun r2 I2 P2 L2 hq => ?_)
  dsimp only
  obtain ⟨w1, w2, w3⟩ := hq
  rw [mg_2 hdi, mg_2 hdi, mg_2 hdi]
  subst w3
  have e := q1.trans (hRR.1.trans w1.symm)
  subst e
  exact r_jeq (pc := 1118) 1253 dL_law_1118 (by decide) (hN Y I1 P1 L1 I2 L2 (by omega) ⟨q3, hRf, by rw [q2, w2]; exact hRR.2, by omega⟩)
theorem cs_part {G : WG} {nm : String} {b m i L : Nat} {K1 K2 K : Nat → Option Kd} {n : Nat × Nat} {Z : Nat × Nat} {Q : Post} {sx : Nat → Int} {Is : MI} {Ps : MP} {Ls : ML} {Y : Int} {Ic : MI} {Pc : MP} {Lc : ML} {Im : MI} {Pm : MP} {Lm : ML} (hX : LX G b L K1 K2 K n sx Is) (hZ : LZ G m K1 K2 n Y Ic Pc Lc Im Pm Lm) (hi : i + 7 ≤ L) (hYi : Y ≤ 20 * (i : Int)) (hN : ∀ (Y' : Int) (Ic' : MI) (Pc' : MP) (Lc' : ML) (Im' : MI) (Lm' : ML), Y' ≤ Y + 20 → LZ G m K1 K2 n Y' Ic' Pc' Lc' Im' Pm Lm' → WL G nm b m i K1 K2 K n Z Q Is Ps Ls 1253 Ic' Pc' Lc' Im' Pm Lm') : WL G nm b m i K1 K2 K n Z Q Is Ps Ls 1123 Ic Pc Lc Im Pm Lm := by
  obtain ⟨hs1, hs2, hdi, hKb, hL, hxi, hsc⟩ := hX
  obtain ⟨hYI, hRf, hR, hY0⟩ := hZ
  have hSI := YI_SI (L := Lc) hYI
  have hr0 := hsc Ic Im Pc Y hYI
  have hx1 := hxi (i + 1) (by omega)
  have hF : FI (Im (m + 1)) Y := hR.1.2.1
  have hBI : BI (Im (m + 1)) := hR.1.2.2.1
  have hRR := rel_part hR (sx (i + 1))
  unfold WL
  refine r_aload_n (pc := 1123) dL_law_1123 rfl ?_
  refine r_aload_n (pc := 1124) dL_law_1124 rfl ?_
  refine r_iload_n (pc := 1125) dL_law_1125 rfl ?_
  refine r_iconst (pc := 1126) dL_law_1126 ?_
  refine r_iadd (pc := 1127) dL_law_1127 ?_
  refine r_iald (j := i + 1) (pc := 1128) dL_law_1128 (by exact hKb) (by omega) (by omega) (by omega) ?_
  rw [hr0 (i + 1) (by omega)]
  refine i_V1lf (pc := 1129) okX11_part inX11_part selX11_part q980 dL_law_1129 (sub_1 hs1 _ _ _ _ _ _ _ _ _) (by exact hYI.1.1) rfl (by decide) (Nat.le_of_ble_eq_true rfl) (sX11_part (G := G) (C := (K1, n)) (I := Ic) (P := Pc) (L := Lc)) (fun r1 I1 P1 L1 hq => ?_)
  dsimp only
  obtain ⟨q1, q2, q3⟩ := hq
  rw [mg_1, mg_1, mg_1]
  have hr1 := hsc I1 Im P1 Y q3
  refine r_aload_n (pc := 1132) dL_law_1132 rfl ?_
  refine r_aload_n (pc := 1133) dL_law_1133 rfl ?_
  refine r_iload_n (pc := 1134) dL_law_1134 rfl ?_
  refine r_iconst (pc := 1135) dL_law_1135 ?_
  refine r_iadd (pc := 1136) dL_law_1136 ?_
  refine r_iald (j := i + 1) (pc := 1137) dL_law_1137 (by exact hKb) (by omega) (by omega) (by omega) ?_
  rw [hr1 (i + 1) (by omega)]
  refine i_V1lf (pc := 1138) okX12_part inX12_part selX12_part q1442 dL_law_1138 (sub_2 hdi hs2 _ _ _ _ _ _ _ _ _) (by exact hRf.2.1) rfl (by decide) (Nat.le_of_ble_eq_true rfl) (sX12_part (G := G) (C := (K2, n)) (I := Im) (P := Pm) (L := Lm)) (fun r2 I2 P2 L2 hq => ?_)
  dsimp only
  obtain ⟨w1, w2, w3⟩ := hq
  rw [mg_2 hdi, mg_2 hdi, mg_2 hdi]
  subst w3
  have e := q1.trans (hRR.1.trans w1.symm)
  subst e
  exact r_jleq (pc := 1141) 1253 dL_law_1141 dL_law_1142 (by decide) (hN Y I1 P1 L1 I2 L2 (by omega) ⟨q3, hRf, by rw [q2, w2]; exact hRR.2, by omega⟩)
theorem cs_image {G : WG} {nm : String} {b m i L : Nat} {K1 K2 K : Nat → Option Kd} {n : Nat × Nat} {Z : Nat × Nat} {Q : Post} {sx : Nat → Int} {Is : MI} {Ps : MP} {Ls : ML} {Y : Int} {Ic : MI} {Pc : MP} {Lc : ML} {Im : MI} {Pm : MP} {Lm : ML} (hX : LX G b L K1 K2 K n sx Is) (hZ : LZ G m K1 K2 n Y Ic Pc Lc Im Pm Lm) (hi : i + 7 ≤ L) (hYi : Y ≤ 20 * (i : Int)) (hN : ∀ (Y' : Int) (Ic' : MI) (Pc' : MP) (Lc' : ML) (Im' : MI) (Lm' : ML), Y' ≤ Y + 20 → LZ G m K1 K2 n Y' Ic' Pc' Lc' Im' Pm Lm' → WL G nm b m i K1 K2 K n Z Q Is Ps Ls 1253 Ic' Pc' Lc' Im' Pm Lm') : WL G nm b m i K1 K2 K n Z Q Is Ps Ls 1147 Ic Pc Lc Im Pm Lm := by
  obtain ⟨hs1, hs2, hdi, hKb, hL, hxi, hsc⟩ := hX
  obtain ⟨hYI, hRf, hR, hY0⟩ := hZ
  have hSI := YI_SI (L := Lc) hYI
  have hr0 := hsc Ic Im Pc Y hYI
  have hx1 := hxi (i + 1) (by omega)
  have hF : FI (Im (m + 1)) Y := hR.1.2.1
  have hBI : BI (Im (m + 1)) := hR.1.2.2.1
  have hRR := rel_image hR hSI (sx (i + 1))
  unfold WL
  refine r_aload_n (pc := 1147) dL_law_1147 rfl ?_
  refine r_aload_n (pc := 1148) dL_law_1148 rfl ?_
  refine r_iload_n (pc := 1149) dL_law_1149 rfl ?_
  refine r_iconst (pc := 1150) dL_law_1150 ?_
  refine r_iadd (pc := 1151) dL_law_1151 ?_
  refine r_iald (j := i + 1) (pc := 1152) dL_law_1152 (by exact hKb) (by omega) (by omega) (by omega) ?_
  rw [hr0 (i + 1) (by omega)]
  refine i_V1if (pc := 1153) okX11_image inX11_image selX11_image q984 dL_law_1153 (sub_1 hs1 _ _ _ _ _ _ _ _ _) (by exact hYI.1.1) rfl (by decide) (Nat.le_of_ble_eq_true rfl) (sX11_image (G := G) (C := (K1, n)) (I := Ic) (P := Pc) (L := Lc)) (fun r1 I1 P1 L1 hq => ?_)
  dsimp only
  obtain ⟨q1, q2, q3⟩ := hq
  rw [mg_1, mg_1, mg_1]
  have hr1 := hsc I1 Im P1 Y q3
  refine r_aload_n (pc := 1156) dL_law_1156 rfl ?_
  refine r_aload_n (pc := 1157) dL_law_1157 rfl ?_
  refine r_iload_n (pc := 1158) dL_law_1158 rfl ?_
  refine r_iconst (pc := 1159) dL_law_1159 ?_
  refine r_iadd (pc := 1160) dL_law_1160 ?_
  refine r_iald (j := i + 1) (pc := 1161) dL_law_1161 (by exact hKb) (by omega) (by omega) (by omega) ?_
  rw [hr1 (i + 1) (by omega)]
  refine i_V1if (pc := 1162) okX12_image inX12_image selX12_image q1446 dL_law_1162 (sub_2 hdi hs2 _ _ _ _ _ _ _ _ _) (by exact hRf.2.1) rfl (by decide) (Nat.le_of_ble_eq_true rfl) (sX12_image (G := G) (C := (K2, n)) (I := Im) (P := Pm) (L := Lm)) (fun r2 I2 P2 L2 hq => ?_)
  dsimp only
  obtain ⟨w1, w2, w3⟩ := hq
  rw [mg_2 hdi, mg_2 hdi, mg_2 hdi]
  subst w3
  have e := q1.trans (hRR.1.trans w1.symm)
  subst e
  exact r_jeq (pc := 1165) 1253 dL_law_1165 (by decide) (hN Y I1 P1 L1 I2 L2 (by omega) ⟨q3, hRf, by rw [q2, w2]; exact hRR.2, by omega⟩)
theorem cs_from {G : WG} {nm : String} {b m i L : Nat} {K1 K2 K : Nat → Option Kd} {n : Nat × Nat} {Z : Nat × Nat} {Q : Post} {sx : Nat → Int} {Is : MI} {Ps : MP} {Ls : ML} {Y : Int} {Ic : MI} {Pc : MP} {Lc : ML} {Im : MI} {Pm : MP} {Lm : ML} (hX : LX G b L K1 K2 K n sx Is) (hZ : LZ G m K1 K2 n Y Ic Pc Lc Im Pm Lm) (hi : i + 7 ≤ L) (hYi : Y ≤ 20 * (i : Int)) (hN : ∀ (Y' : Int) (Ic' : MI) (Pc' : MP) (Lc' : ML) (Im' : MI) (Lm' : ML), Y' ≤ Y + 20 → LZ G m K1 K2 n Y' Ic' Pc' Lc' Im' Pm Lm' → WL G nm b m i K1 K2 K n Z Q Is Ps Ls 1253 Ic' Pc' Lc' Im' Pm Lm') : WL G nm b m i K1 K2 K n Z Q Is Ps Ls 1170 Ic Pc Lc Im Pm Lm := by
  obtain ⟨hs1, hs2, hdi, hKb, hL, hxi, hsc⟩ := hX
  obtain ⟨hYI, hRf, hR, hY0⟩ := hZ
  have hSI := YI_SI (L := Lc) hYI
  have hr0 := hsc Ic Im Pc Y hYI
  have hx1 := hxi (i + 1) (by omega)
  have hF : FI (Im (m + 1)) Y := hR.1.2.1
  have hBI : BI (Im (m + 1)) := hR.1.2.2.1
  have hk01 : ∀ j, j < 2 → Im (m + 3) j = 0 ∨ Im (m + 3) j = 1 := fun j hj => (hR.2.1.2 j hj).1
  have hRR := rel_from hR hSI (sx (i + 1))
  unfold WL
  refine r_aload_n (pc := 1170) dL_law_1170 rfl ?_
  refine r_aload_n (pc := 1171) dL_law_1171 rfl ?_
  refine r_iload_n (pc := 1172) dL_law_1172 rfl ?_
  refine r_iconst (pc := 1173) dL_law_1173 ?_
  refine r_iadd (pc := 1174) dL_law_1174 ?_
  refine r_iald (j := i + 1) (pc := 1175) dL_law_1175 (by exact hKb) (by omega) (by omega) (by omega) ?_
  rw [hr0 (i + 1) (by omega)]
  refine i_V1if (pc := 1176) okX11_from inX11_from selX11_from q992 dL_law_1176 (sub_1 hs1 _ _ _ _ _ _ _ _ _) (by exact hYI.1.1) rfl (by decide) (Nat.le_of_ble_eq_true rfl) (sX11_from (G := G) (C := (K1, n)) (I := Ic) (P := Pc) (L := Lc)) (fun r1 I1 P1 L1 hq => ?_)
  dsimp only
  obtain ⟨q1, q2, q3⟩ := hq
  rw [mg_1, mg_1, mg_1]
  have hr1 := hsc I1 Im P1 Y q3
  refine r_aload_n (pc := 1179) dL_law_1179 rfl ?_
  refine r_aload_n (pc := 1180) dL_law_1180 rfl ?_
  refine r_iload_n (pc := 1181) dL_law_1181 rfl ?_
  refine r_iconst (pc := 1182) dL_law_1182 ?_
  refine r_iadd (pc := 1183) dL_law_1183 ?_
  refine r_iald (j := i + 1) (pc := 1184) dL_law_1184 (by exact hKb) (by omega) (by omega) (by omega) ?_
  rw [hr1 (i + 1) (by omega)]
  refine i_V1if (pc := 1185) okX12_from inX12_from selX12_from q1450 dL_law_1185 (sub_2 hdi hs2 _ _ _ _ _ _ _ _ _) (by exact hRf.2.1) rfl (by decide) (Nat.le_of_ble_eq_true rfl) (sX12_from (G := G) (C := (K2, n)) (I := Im) (P := Pm) (L := Lm)) (fun r2 I2 P2 L2 hq => ?_)
  dsimp only
  obtain ⟨w1, w2, w3⟩ := hq
  rw [mg_2 hdi, mg_2 hdi, mg_2 hdi]
  subst w3
  have e := q1.trans (hRR.1.trans w1.symm)
  subst e
  exact r_jeq (pc := 1188) 1253 dL_law_1188 (by decide) (hN Y I1 P1 L1 I2 L2 (by omega) ⟨q3, hRf, by rw [q2, w2]; exact hRR.2, by omega⟩)
theorem cs_status {G : WG} {nm : String} {b m i L : Nat} {K1 K2 K : Nat → Option Kd} {n : Nat × Nat} {Z : Nat × Nat} {Q : Post} {sx : Nat → Int} {Is : MI} {Ps : MP} {Ls : ML} {Y : Int} {Ic : MI} {Pc : MP} {Lc : ML} {Im : MI} {Pm : MP} {Lm : ML} (hX : LX G b L K1 K2 K n sx Is) (hZ : LZ G m K1 K2 n Y Ic Pc Lc Im Pm Lm) (hi : i + 7 ≤ L) (hYi : Y ≤ 20 * (i : Int)) (hN : ∀ (Y' : Int) (Ic' : MI) (Pc' : MP) (Lc' : ML) (Im' : MI) (Lm' : ML), Y' ≤ Y + 20 → LZ G m K1 K2 n Y' Ic' Pc' Lc' Im' Pm Lm' → WL G nm b m i K1 K2 K n Z Q Is Ps Ls 1253 Ic' Pc' Lc' Im' Pm Lm') : WL G nm b m i K1 K2 K n Z Q Is Ps Ls 1193 Ic Pc Lc Im Pm Lm := by
  obtain ⟨hs1, hs2, hdi, hKb, hL, hxi, hsc⟩ := hX
  obtain ⟨hYI, hRf, hR, hY0⟩ := hZ
  have hSI := YI_SI (L := Lc) hYI
  have hr0 := hsc Ic Im Pc Y hYI
  have hx1 := hxi (i + 1) (by omega)
  have hF : FI (Im (m + 1)) Y := hR.1.2.1
  have hBI : BI (Im (m + 1)) := hR.1.2.2.1
  have hRR := rel_status hR (sx (i + 1))
  unfold WL
  refine r_aload_n (pc := 1193) dL_law_1193 rfl ?_
  refine r_aload_n (pc := 1194) dL_law_1194 rfl ?_
  refine r_iload_n (pc := 1195) dL_law_1195 rfl ?_
  refine r_iconst (pc := 1196) dL_law_1196 ?_
  refine r_iadd (pc := 1197) dL_law_1197 ?_
  refine r_iald (j := i + 1) (pc := 1198) dL_law_1198 (by exact hKb) (by omega) (by omega) (by omega) ?_
  rw [hr0 (i + 1) (by omega)]
  refine i_V1if (pc := 1199) okX11_status inX11_status selX11_status q996 dL_law_1199 (sub_1 hs1 _ _ _ _ _ _ _ _ _) (by exact hYI.1.1) rfl (by decide) (Nat.le_of_ble_eq_true rfl) (sX11_status (G := G) (C := (K1, n)) (I := Ic) (P := Pc) (L := Lc)) (fun r1 I1 P1 L1 hq => ?_)
  dsimp only
  obtain ⟨q1, q2, q3⟩ := hq
  rw [mg_1, mg_1, mg_1]
  have hr1 := hsc I1 Im P1 Y q3
  refine r_aload_n (pc := 1202) dL_law_1202 rfl ?_
  refine r_aload_n (pc := 1203) dL_law_1203 rfl ?_
  refine r_iload_n (pc := 1204) dL_law_1204 rfl ?_
  refine r_iconst (pc := 1205) dL_law_1205 ?_
  refine r_iadd (pc := 1206) dL_law_1206 ?_
  refine r_iald (j := i + 1) (pc := 1207) dL_law_1207 (by exact hKb) (by omega) (by omega) (by omega) ?_
  rw [hr1 (i + 1) (by omega)]
  refine i_V1if (pc := 1208) okX12_status inX12_status selX12_status q1454 dL_law_1208 (sub_2 hdi hs2 _ _ _ _ _ _ _ _ _) (by exact hRf.2.1) rfl (by decide) (Nat.le_of_ble_eq_true rfl) (sX12_status (G := G) (C := (K2, n)) (I := Im) (P := Pm) (L := Lm)) (fun r2 I2 P2 L2 hq => ?_)
  dsimp only
  obtain ⟨w1, w2, w3⟩ := hq
  rw [mg_2 hdi, mg_2 hdi, mg_2 hdi]
  subst w3
  have e := q1.trans (hRR.1.trans w1.symm)
  subst e
  exact r_jeq (pc := 1211) 1253 dL_law_1211 (by decide) (hN Y I1 P1 L1 I2 L2 (by omega) ⟨q3, hRf, by rw [q2, w2]; exact hRR.2, by omega⟩)
theorem cs_count {G : WG} {nm : String} {b m i L : Nat} {K1 K2 K : Nat → Option Kd} {n : Nat × Nat} {Z : Nat × Nat} {Q : Post} {sx : Nat → Int} {Is : MI} {Ps : MP} {Ls : ML} {Y : Int} {Ic : MI} {Pc : MP} {Lc : ML} {Im : MI} {Pm : MP} {Lm : ML} (hX : LX G b L K1 K2 K n sx Is) (hZ : LZ G m K1 K2 n Y Ic Pc Lc Im Pm Lm) (hi : i + 7 ≤ L) (hYi : Y ≤ 20 * (i : Int)) (hN : ∀ (Y' : Int) (Ic' : MI) (Pc' : MP) (Lc' : ML) (Im' : MI) (Lm' : ML), Y' ≤ Y + 20 → LZ G m K1 K2 n Y' Ic' Pc' Lc' Im' Pm Lm' → WL G nm b m i K1 K2 K n Z Q Is Ps Ls 1253 Ic' Pc' Lc' Im' Pm Lm') : WL G nm b m i K1 K2 K n Z Q Is Ps Ls 1216 Ic Pc Lc Im Pm Lm := by
  obtain ⟨hs1, hs2, hdi, hKb, hL, hxi, hsc⟩ := hX
  obtain ⟨hYI, hRf, hR, hY0⟩ := hZ
  have hSI := YI_SI (L := Lc) hYI
  have hr0 := hsc Ic Im Pc Y hYI
  have hx1 := hxi (i + 1) (by omega)
  have hF : FI (Im (m + 1)) Y := hR.1.2.1
  have hBI : BI (Im (m + 1)) := hR.1.2.2.1
  have hRR := rel_count hR hSI (sx (i + 1))
  unfold WL
  refine r_aload_n (pc := 1216) dL_law_1216 rfl ?_
  refine r_aload_n (pc := 1217) dL_law_1217 rfl ?_
  refine r_iload_n (pc := 1218) dL_law_1218 rfl ?_
  refine r_iconst (pc := 1219) dL_law_1219 ?_
  refine r_iadd (pc := 1220) dL_law_1220 ?_
  refine r_iald (j := i + 1) (pc := 1221) dL_law_1221 (by exact hKb) (by omega) (by omega) (by omega) ?_
  rw [hr0 (i + 1) (by omega)]
  refine i_V1if (pc := 1222) okX11_count inX11_count selX11_count q1000 dL_law_1222 (sub_1 hs1 _ _ _ _ _ _ _ _ _) (by exact hYI.1.1) rfl (by decide) (Nat.le_of_ble_eq_true rfl) (sX11_count (G := G) (C := (K1, n)) (I := Ic) (P := Pc) (L := Lc)) (fun r1 I1 P1 L1 hq => ?_)
  dsimp only
  obtain ⟨q1, q2, q3⟩ := hq
  rw [mg_1, mg_1, mg_1]
  have hr1 := hsc I1 Im P1 Y q3
  refine r_aload_n (pc := 1225) dL_law_1225 rfl ?_
  refine r_aload_n (pc := 1226) dL_law_1226 rfl ?_
  refine r_iload_n (pc := 1227) dL_law_1227 rfl ?_
  refine r_iconst (pc := 1228) dL_law_1228 ?_
  refine r_iadd (pc := 1229) dL_law_1229 ?_
  refine r_iald (j := i + 1) (pc := 1230) dL_law_1230 (by exact hKb) (by omega) (by omega) (by omega) ?_
  rw [hr1 (i + 1) (by omega)]
  refine i_V1if (pc := 1231) okX12_count inX12_count selX12_count q1458 dL_law_1231 (sub_2 hdi hs2 _ _ _ _ _ _ _ _ _) (by exact hRf.2.1) rfl (by decide) (Nat.le_of_ble_eq_true rfl) (sX12_count (G := G) (C := (K2, n)) (I := Im) (P := Pm) (L := Lm)) (fun r2 I2 P2 L2 hq => ?_)
  dsimp only
  obtain ⟨w1, w2, w3⟩ := hq
  rw [mg_2 hdi, mg_2 hdi, mg_2 hdi]
  subst w3
  have e := q1.trans (hRR.1.trans w1.symm)
  subst e
  exact r_jeq (pc := 1234) 1253 dL_law_1234 (by decide) (hN Y I1 P1 L1 I2 L2 (by omega) ⟨q3, hRf, by rw [q2, w2]; exact hRR.2, by omega⟩)
theorem cs_digest {G : WG} {nm : String} {b m i L : Nat} {K1 K2 K : Nat → Option Kd} {n : Nat × Nat} {Z : Nat × Nat} {Q : Post} {sx : Nat → Int} {Is : MI} {Ps : MP} {Ls : ML} {Y : Int} {Ic : MI} {Pc : MP} {Lc : ML} {Im : MI} {Pm : MP} {Lm : ML} (hX : LX G b L K1 K2 K n sx Is) (hZ : LZ G m K1 K2 n Y Ic Pc Lc Im Pm Lm) (hi : i + 7 ≤ L) (hYi : Y ≤ 20 * (i : Int)) (hN : ∀ (Y' : Int) (Ic' : MI) (Pc' : MP) (Lc' : ML) (Im' : MI) (Lm' : ML), Y' ≤ Y + 20 → LZ G m K1 K2 n Y' Ic' Pc' Lc' Im' Pm Lm' → WL G nm b m i K1 K2 K n Z Q Is Ps Ls 1253 Ic' Pc' Lc' Im' Pm Lm') : WL G nm b m i K1 K2 K n Z Q Is Ps Ls 1239 Ic Pc Lc Im Pm Lm := by
  obtain ⟨hs1, hs2, hdi, hKb, hL, hxi, hsc⟩ := hX
  obtain ⟨hYI, hRf, hR, hY0⟩ := hZ
  have hSI := YI_SI (L := Lc) hYI
  have hr0 := hsc Ic Im Pc Y hYI
  have hF : FI (Im (m + 1)) Y := hR.1.2.1
  have hBI : BI (Im (m + 1)) := hR.1.2.2.1
  have hRR := rel_digest hR hSI
  unfold WL
  refine r_aload_n (pc := 1239) dL_law_1239 rfl ?_
  refine i_V0lf (pc := 1240) okX11_digest inX11_digest selX11_digest q1008 dL_law_1240 (sub_1 hs1 _ _ _ _ _ _ _ _ _) (by exact hYI.1.1) rfl (by decide) (Nat.le_of_ble_eq_true rfl) (sX11_digest (G := G) (C := (K1, n)) (I := Ic) (P := Pc) (L := Lc)) (fun r1 I1 P1 L1 hq => ?_)
  dsimp only
  obtain ⟨q1, q2, q3⟩ := hq
  rw [mg_1, mg_1, mg_1]
  have hr1 := hsc I1 Im P1 Y q3
  refine r_aload_n (pc := 1243) dL_law_1243 rfl ?_
  refine i_V0lf (pc := 1244) okX12_digest inX12_digest selX12_digest q1467 dL_law_1244 (sub_2 hdi hs2 _ _ _ _ _ _ _ _ _) (by exact hRf.2.1) rfl (by decide) (Nat.le_of_ble_eq_true rfl) (sX12_digest (G := G) (C := (K2, n)) (I := Im) (P := Pm) (L := Lm)) (fun r2 I2 P2 L2 hq => ?_)
  dsimp only
  obtain ⟨w1, w2, w3⟩ := hq
  rw [mg_2 hdi, mg_2 hdi, mg_2 hdi]
  subst w3
  have e := q1.trans (hRR.1.trans w1.symm)
  subst e
  exact r_jleq (pc := 1247) 1253 dL_law_1247 dL_law_1248 (by decide) (hN Y I1 P1 L1 I2 L2 (by omega) ⟨q3, hRf, by rw [q2, w2]; exact hRR.2, by omega⟩)

