/-! phase B: the years one by one -/
theorem ph_b {G : WG} {nm : String} {b Ln nf m : Nat} {K1 K : Nat → Option Kd} {n : Nat × Nat} {Z : Nat × Nat} {Q : Post} {sx : Nat → Int} {Is : MI} {Ps : MP} {Ls : ML} {T : Nat → Int} {R : LSt × LSt × (Nat → Int) × Int × Int × Int × Int × Int × Int × Int} {Y fi he te : Int} {Ic : MI} {Pc : MP} {Lc : ML} (hX : LC b Ln K1 K sx Is) (hfi : fi = firstF T m) (hm : 1 ≤ m ∧ m ≤ 20) (hnf : nf ≤ 6) (hT6 : T 6 = (nf : Int)) (hT1 : T 1 = 0) (hT31 : T 31 = 0) (hR : ImR R T) (hA : AtS G (K1, n) R T Y Ic Pc Lc) (hY : 0 ≤ Y ∧ Y ≤ 10000) (hN : ∀ (Y' : Int) (Ic : MI) (Pc : MP) (Lc : ML), 0 ≤ Y' ∧ Y' ≤ Y + 500 → AtS G (K1, n) R T Y' Ic Pc Lc → NoB G Ic Lc → WJ G nm b nf m fi he te K1 K n Z Q Is Ps Ls 259 Ic Pc Lc) : WJ G nm b nf m fi he te K1 K n Z Q Is Ps Ls 68 Ic Pc Lc := by
  unfold WJ at hN ⊢
  obtain ⟨hs1, hKb, hL, hsc⟩ := hX
  have hFI := hA.fi
  have hfr := first_in T m
  have loopK : ∀ (d k : Nat) (i w : Int) (x9 x10 : Option Value) (Ic : MI) (Pc : MP) (Lc : ML), k + d = m → i = (k : Int) → w = sumW T k → AtS G (K1, n) R (runF T k) (Y + 20 * (k : Int)) Ic Pc Lc → Wd G ⟨RL, nm, "([I)Z"⟩ cL_law 17 (some .boolean) 48 Z Q 74 [some (.ref b), some (.ref (gB G)), some (.int (zI (nf : Int))), some (.int (zI (m : Int))), some (.int (zI fi)), some (.int (zI he)), some (.int (zI te)), some (.int (zI w)), some (.int (zI i)), x9, x10, none, none, none, none, none, none] [] (K, n) (mg K1 Ic Is) (mg K1 Pc Ps) (mg K1 Lc Ls) := by
    intro d
    induction d with
    | zero =>
      intro k i w x9 x10 Ic Pc Lc hd hi hw hA1
      have hws := sumW_in hFI k
      have e31 := run_31 T k
      refine r_iload (pc := 74) dL_law_74 rfl ?_
      refine r_iload_n (pc := 76) dL_law_76 rfl ?_
      refine r_icmp_ge (pc := 77) 237 dL_law_77 (by decide) (by omega) (by omega) (fun h77 => ?_) (fun h77 => ?_)
      · skip
        refine r_aload_n (pc := 237) dL_law_237 rfl ?_
        refine r_bipush (pc := 238) dL_law_238 (by decide) ?_
        refine i_V1if (pc := 240) okX11_count inX11_count selX11_count q684 dL_law_240 (sub_m hs1 _ _ _ _ _ _) (by exact hA1.1.1.1) rfl (by decide) (Nat.le_of_ble_eq_true rfl) (sX11_count (G := G) (C := (K1, n)) (I := Ic) (P := Pc) (L := Lc) (h := hA1.1)) (fun r1 I1 P1 L1 hq => ?_)
        dsimp only
        obtain ⟨e1, a1⟩ := at_count hA1 (by omega) hq
        rw [mg_mg, mg_mg, mg_mg]
        refine r_iload (pc := 243) dL_law_243 rfl ?_
        refine r_icmp_ne (pc := 245) 257 dL_law_245 (by decide) (by omega) (by omega) (fun h245 => ?_) (fun h245 => ?_)
        · exfalso; rw [if_pos rfl] at e1; omega
        · skip
          refine r_aload_n (pc := 248) dL_law_248 rfl ?_
          refine r_iconst (pc := 249) dL_law_249 ?_
          refine i_V1if (pc := 250) okX11_from inX11_from selX11_from q680 dL_law_250 (sub_m hs1 _ _ _ _ _ _) (by exact a1.1.1.1) rfl (by decide) (Nat.le_of_ble_eq_true rfl) (sX11_from (G := G) (C := (K1, n)) (I := I1) (P := P1) (L := L1) (h := a1.1)) (fun r2 I2 P2 L2 hq2 => ?_)
          dsimp only
          obtain ⟨e2, a2, nb2⟩ := at_from a1 hR hq2
          rw [mg_mg, mg_mg, mg_mg]
          refine r_iconst (pc := 253) dL_law_253 ?_
          refine r_icmp_eq (pc := 254) 259 dL_law_254 (by decide) (by omega) (by omega) (fun h254 => ?_) (fun h254 => ?_)
          · skip
            exact wd_f7 (hN _ _ _ _ (by omega) a2 nb2)
          · exfalso; omega
      · exfalso; omega
    | succ d ih =>
      intro k i w x9 x10 Ic Pc Lc hd hi hw hA1
      have hk : k < m := by omega
      have hFk := FI_runF hFI (k + 1)
      have hwr := wantF_in (FI_runF hFI k) false
      have hws := sumW_in hFI k
      have e1k := run_1 T (k + 1)
      have e6k := run_6 T (k + 1)
      have st231 : ∀ (r : Int) (w2 : Int) (x10 : Option Value) (Ic : MI) (Pc : MP) (Lc : ML), w2 = sumW T (k + 1) → AtS G (K1, n) R (runF T (k + 1)) (Y + 20 * ((k + 1 : Nat) : Int)) Ic Pc Lc → Wd G ⟨RL, nm, "([I)Z"⟩ cL_law 17 (some .boolean) 48 Z Q 231 [some (.ref b), some (.ref (gB G)), some (.int (zI (nf : Int))), some (.int (zI (m : Int))), some (.int (zI fi)), some (.int (zI he)), some (.int (zI te)), some (.int (zI w2)), some (.int (zI i)), some (.int (zI r)), x10, none, none, none, none, none, none] [] (K, n) (mg K1 Ic Is) (mg K1 Pc Ps) (mg K1 Lc Ls) := by
        intro r w2 x10 Ic Pc Lc hw2 hA2
        refine r_iinc (pc := 231) dL_law_231 rfl ?_
        refine r_goto (pc := 234) 74 dL_law_234 (by decide) ?_
        exact ih (k + 1) _ _ _ _ Ic Pc Lc (by omega) (by omega) hw2 hA2
      have st184 : ∀ (e f : Nat) (r w2 j : Int) (Ic : MI) (Pc : MP) (Lc : ML), f + e = nf → j = (f : Int) → w2 = sumW T (k + 1) → AtS G (K1, n) R (runF T (k + 1)) (Y + 20 * ((k + 1 : Nat) : Int)) Ic Pc Lc → Wd G ⟨RL, nm, "([I)Z"⟩ cL_law 17 (some .boolean) 48 Z Q 184 [some (.ref b), some (.ref (gB G)), some (.int (zI (nf : Int))), some (.int (zI (m : Int))), some (.int (zI fi)), some (.int (zI he)), some (.int (zI te)), some (.int (zI w2)), some (.int (zI i)), some (.int (zI r)), some (.int (zI j)), none, none, none, none, none, none] [] (K, n) (mg K1 Ic Is) (mg K1 Pc Ps) (mg K1 Lc Ls) := by
        intro e
        induction e with
        | zero =>
          intro f r w2 j Ic Pc Lc he1 hj hw2 hA2
          refine r_iload (pc := 184) dL_law_184 rfl ?_
          refine r_iload_n (pc := 186) dL_law_186 rfl ?_
          refine r_icmp_ge (pc := 187) 231 dL_law_187 (by decide) (by omega) (by omega) (fun h187 => ?_) (fun h187 => ?_)
          · skip
            exact st231 _ _ _ Ic Pc Lc hw2 hA2
          · exfalso; omega
        | succ e ihe =>
          intro f r w2 j Ic Pc Lc he1 hj hw2 hA2
          have hf6 := hFk.2.2.2.2.2.2.2 f (by omega)
          have hfl := hf6.2.2.2.2 (by omega)
          rw [show 8 + 4 * f = 7 + 4 * f + 1 by omega, show 9 + 4 * f = 7 + 4 * f + 2 by omega] at hf6
          rw [show 8 + 4 * f = 7 + 4 * f + 1 by omega] at hfl
          refine r_iload (pc := 184) dL_law_184 rfl ?_
          refine r_iload_n (pc := 186) dL_law_186 rfl ?_
          refine r_icmp_ge (pc := 187) 231 dL_law_187 (by decide) (by omega) (by omega) (fun h187 => ?_) (fun h187 => ?_)
          · exfalso; omega
          · skip
            refine r_aload_n (pc := 190) dL_law_190 rfl ?_
            refine r_iload (pc := 191) dL_law_191 rfl ?_
            refine r_iconst (pc := 193) dL_law_193 ?_
            refine i_V2if (pc := 194) okX11_about inX11_about selX11_about q521 dL_law_194 (sub_m hs1 _ _ _ _ _ _) (by exact hA2.1.1.1) rfl (by decide) (Nat.le_of_ble_eq_true rfl) (sX11_about (G := G) (C := (K1, n)) (I := Ic) (P := Pc) (L := Lc) (h := hA2.1)) (fun r1 I1 P1 L1 hq => ?_)
            dsimp only
            obtain ⟨e1, a1⟩ := at_about (f := f) (j := 1) hA2 hj rfl (by omega) (by omega) hq
            rw [mg_mg, mg_mg, mg_mg]
            refine r_iconst (pc := 197) dL_law_197 ?_
            refine r_icmp_lt (pc := 198) 223 dL_law_198 (by decide) (by omega) (by omega) (fun h198 => ?_) (fun h198 => ?_)
            · exfalso; omega
            · skip
              refine r_aload_n (pc := 201) dL_law_201 rfl ?_
              refine r_iload (pc := 202) dL_law_202 rfl ?_
              refine r_iconst (pc := 204) dL_law_204 ?_
              refine i_V2if (pc := 205) okX11_about inX11_about selX11_about q521 dL_law_205 (sub_m hs1 _ _ _ _ _ _) (by exact a1.1.1.1) rfl (by decide) (Nat.le_of_ble_eq_true rfl) (sX11_about (G := G) (C := (K1, n)) (I := I1) (P := P1) (L := L1) (h := a1.1)) (fun r2 I2 P2 L2 hq2 => ?_)
              dsimp only
              obtain ⟨e2, a2⟩ := at_about (f := f) (j := 2) a1 hj rfl (by omega) (by omega) hq2
              rw [mg_mg, mg_mg, mg_mg]
              refine r_if_lt (pc := 208) 223 dL_law_208 (by decide) (by omega) (fun h208 => ?_) (fun h208 => ?_)
              · exfalso; omega
              · skip
                refine r_aload_n (pc := 211) dL_law_211 rfl ?_
                refine r_iload (pc := 212) dL_law_212 rfl ?_
                refine r_iconst (pc := 214) dL_law_214 ?_
                refine i_V2if (pc := 215) okX11_about inX11_about selX11_about q521 dL_law_215 (sub_m hs1 _ _ _ _ _ _) (by exact a2.1.1.1) rfl (by decide) (Nat.le_of_ble_eq_true rfl) (sX11_about (G := G) (C := (K1, n)) (I := I2) (P := P2) (L := L2) (h := a2.1)) (fun r3 I3 P3 L3 hq3 => ?_)
                dsimp only
                obtain ⟨e3, a3⟩ := at_about (f := f) (j := 2) a2 hj rfl (by omega) (by omega) hq3
                rw [mg_mg, mg_mg, mg_mg]
                refine r_bipush (pc := 218) dL_law_218 (by decide) ?_
                refine r_icmp_le (pc := 220) 225 dL_law_220 (by decide) (by omega) (by omega) (fun h220 => ?_) (fun h220 => ?_)
                · skip
                  refine r_iinc (pc := 225) dL_law_225 rfl ?_
                  refine r_goto (pc := 228) 184 dL_law_228 (by decide) ?_
                  exact ihe (f + 1) r w2 _ I3 P3 L3 (by omega) (by omega) hw2 a3
                · exfalso; omega
      have st145 : ∀ (e c : Nat) (r w2 j : Int) (Ic : MI) (Pc : MP) (Lc : ML), c + e = 6 → 2 ≤ c → j = (c : Int) → w2 = sumW T (k + 1) → AtS G (K1, n) R (runF T (k + 1)) (Y + 20 * ((k + 1 : Nat) : Int)) Ic Pc Lc → Wd G ⟨RL, nm, "([I)Z"⟩ cL_law 17 (some .boolean) 48 Z Q 145 [some (.ref b), some (.ref (gB G)), some (.int (zI (nf : Int))), some (.int (zI (m : Int))), some (.int (zI fi)), some (.int (zI he)), some (.int (zI te)), some (.int (zI w2)), some (.int (zI i)), some (.int (zI r)), some (.int (zI j)), none, none, none, none, none, none] [] (K, n) (mg K1 Ic Is) (mg K1 Pc Ps) (mg K1 Lc Ls) := by
        intro e
        induction e with
        | zero =>
          intro c r w2 j Ic Pc Lc he1 hc hj hw2 hA2
          refine r_iload (pc := 145) dL_law_145 rfl ?_
          refine r_bipush (pc := 147) dL_law_147 (by decide) ?_
          refine r_icmp_ge (pc := 149) 181 dL_law_149 (by decide) (by omega) (by omega) (fun h149 => ?_) (fun h149 => ?_)
          · skip
            refine r_iconst (pc := 181) dL_law_181 ?_
            refine r_istore (pc := 182) dL_law_182 (by decide) ?_
            exact st184 nf 0 r w2 _ Ic Pc Lc (by omega) (by omega) hw2 hA2
          · exfalso; omega
        | succ e ihe =>
          intro c r w2 j Ic Pc Lc he1 hc hj hw2 hA2
          have hcb := FI_c (c := c) hFk (by omega)
          refine r_iload (pc := 145) dL_law_145 rfl ?_
          refine r_bipush (pc := 147) dL_law_147 (by decide) ?_
          refine r_icmp_ge (pc := 149) 181 dL_law_149 (by decide) (by omega) (by omega) (fun h149 => ?_) (fun h149 => ?_)
          · exfalso; omega
          · skip
            refine r_aload_n (pc := 152) dL_law_152 rfl ?_
            refine r_iload (pc := 153) dL_law_153 rfl ?_
            refine i_V1if (pc := 155) okX11_count inX11_count selX11_count q684 dL_law_155 (sub_m hs1 _ _ _ _ _ _) (by exact hA2.1.1.1) rfl (by decide) (Nat.le_of_ble_eq_true rfl) (sX11_count (G := G) (C := (K1, n)) (I := Ic) (P := Pc) (L := Lc) (h := hA2.1)) (fun r1 I1 P1 L1 hq => ?_)
            dsimp only
            obtain ⟨e1, a1⟩ := at_cnt (c := c) hA2 hj (by omega) hq
            rw [mg_mg, mg_mg, mg_mg]
            refine r_if_lt (pc := 158) 173 dL_law_158 (by decide) (by omega) (fun h158 => ?_) (fun h158 => ?_)
            · exfalso; omega
            · skip
              refine r_aload_n (pc := 161) dL_law_161 rfl ?_
              refine r_iload (pc := 162) dL_law_162 rfl ?_
              refine i_V1if (pc := 164) okX11_count inX11_count selX11_count q684 dL_law_164 (sub_m hs1 _ _ _ _ _ _) (by exact a1.1.1.1) rfl (by decide) (Nat.le_of_ble_eq_true rfl) (sX11_count (G := G) (C := (K1, n)) (I := I1) (P := P1) (L := L1) (h := a1.1)) (fun r2 I2 P2 L2 hq2 => ?_)
              dsimp only
              obtain ⟨e2, a2⟩ := at_cnt (c := c) a1 hj (by omega) hq2
              rw [mg_mg, mg_mg, mg_mg]
              refine r_sipush (pc := 167) dL_law_167 (by decide) ?_
              refine r_icmp_le (pc := 170) 175 dL_law_170 (by decide) (by omega) (by omega) (fun h170 => ?_) (fun h170 => ?_)
              · skip
                refine r_iinc (pc := 175) dL_law_175 rfl ?_
                refine r_goto (pc := 178) 145 dL_law_178 (by decide) ?_
                exact ihe (c + 1) r w2 _ I2 P2 L2 (by omega) (by omega) (by omega) hw2 a2
              · exfalso; omega
      have st121 : ∀ (r : Int) (x10 : Option Value) (Ic : MI) (Pc : MP) (Lc : ML), r = wantF (runF T k) false → AtS G (K1, n) R (runF T (k + 1)) (Y + 20 * ((k + 1 : Nat) : Int)) Ic Pc Lc → Wd G ⟨RL, nm, "([I)Z"⟩ cL_law 17 (some .boolean) 48 Z Q 121 [some (.ref b), some (.ref (gB G)), some (.int (zI (nf : Int))), some (.int (zI (m : Int))), some (.int (zI fi)), some (.int (zI he)), some (.int (zI te)), some (.int (zI w)), some (.int (zI i)), some (.int (zI r)), x10, none, none, none, none, none, none] [] (K, n) (mg K1 Ic Is) (mg K1 Pc Ps) (mg K1 Lc Ls) := by
        intro r x10 Ic Pc Lc hr hA2
        refine r_aload_n (pc := 121) dL_law_121 rfl ?_
        refine r_iconst (pc := 122) dL_law_122 ?_
        refine i_V1if (pc := 123) okX11_count inX11_count selX11_count q684 dL_law_123 (sub_m hs1 _ _ _ _ _ _) (by exact hA2.1.1.1) rfl (by decide) (Nat.le_of_ble_eq_true rfl) (sX11_count (G := G) (C := (K1, n)) (I := Ic) (P := Pc) (L := Lc) (h := hA2.1)) (fun r1 I1 P1 L1 hq => ?_)
        dsimp only
        obtain ⟨e1, a1⟩ := at_cnt (c := 1) hA2 rfl (by omega) hq
        rw [mg_mg, mg_mg, mg_mg]
        refine r_iload (pc := 126) dL_law_126 rfl ?_
        refine r_iconst (pc := 128) dL_law_128 ?_
        refine r_iadd (pc := 129) dL_law_129 ?_
        refine r_icmp_eq (pc := 130) 135 dL_law_130 (by decide) (by omega) (by omega) (fun h130 => ?_) (fun h130 => ?_)
        · skip
          refine r_iload (pc := 135) dL_law_135 rfl ?_
          refine r_iload (pc := 137) dL_law_137 rfl ?_
          refine r_iadd (pc := 139) dL_law_139 ?_
          refine r_istore (pc := 140) dL_law_140 (by decide) ?_
          refine r_iconst (pc := 142) dL_law_142 ?_
          refine r_istore (pc := 143) dL_law_143 (by decide) ?_
          exact st145 4 2 r _ _ I1 P1 L1 (by omega) (by omega) (by omega) (by rw [sumW, hw, hr]) a1
        · exfalso; omega
      refine r_iload (pc := 74) dL_law_74 rfl ?_
      refine r_iload_n (pc := 76) dL_law_76 rfl ?_
      refine r_icmp_ge (pc := 77) 237 dL_law_77 (by decide) (by omega) (by omega) (fun h77 => ?_) (fun h77 => ?_)
      · exfalso; omega
      · skip
        refine r_aload_n (pc := 80) dL_law_80 rfl ?_
        refine r_iconst (pc := 81) dL_law_81 ?_
        refine i_V1if (pc := 82) okX11_pass inX11_pass selX11_pass q344 dL_law_82 (sub_m hs1 _ _ _ _ _ _) (by exact hA1.1.1.1) rfl (by decide) (Nat.le_of_ble_eq_true rfl) (sX11_pass (G := G) (C := (K1, n)) (I := Ic) (P := Pc) (L := Lc) (h := hA1.1)) (fun r1 I1 P1 L1 hq => ?_)
        dsimp only
        obtain ⟨e1, a1, -⟩ := at_pass1 hA1 hq
        replace a1 : AtS G (K1, n) R (runF T (k + 1)) (Y + 20 * ((k + 1 : Nat) : Int)) I1 P1 L1 := by
          rw [show Y + 20 * ((k + 1 : Nat) : Int) = Y + 20 * (k : Int) + 20 by omega]; exact a1
        rw [mg_mg, mg_mg, mg_mg]
        refine r_istore (pc := 85) dL_law_85 (by decide) ?_
        refine r_iload (pc := 87) dL_law_87 rfl ?_
        refine r_if_lt (pc := 89) 133 dL_law_89 (by decide) (by omega) (fun h89 => ?_) (fun h89 => ?_)
        · exfalso; omega
        · skip
          refine r_iload (pc := 92) dL_law_92 rfl ?_
          refine r_if_lt (pc := 94) 104 dL_law_94 (by decide) (by omega) (fun h94 => ?_) (fun h94 => ?_)
          · skip
            refine r_iload (pc := 104) dL_law_104 rfl ?_
            refine r_if_ne (pc := 106) 133 dL_law_106 (by decide) (by omega) (fun h106 => ?_) (fun h106 => ?_)
            · exfalso; have := first_no hFI hk (by omega); omega
            · skip
              refine r_iload (pc := 109) dL_law_109 rfl ?_
              refine r_iload (pc := 111) dL_law_111 rfl ?_
              refine r_icmp_ne (pc := 113) 121 dL_law_113 (by decide) (by omega) (by omega) (fun h113 => ?_) (fun h113 => ?_)
              · skip
                exact st121 _ _ I1 P1 L1 e1 a1
              · skip
                refine r_iload (pc := 116) dL_law_116 rfl ?_
                refine r_if_eq (pc := 118) 133 dL_law_118 (by decide) (by omega) (fun h118 => ?_) (fun h118 => ?_)
                · exfalso; exact first_at (T := T) (m := m) (k := k) (by omega) (by omega)
                · skip
                  exact st121 _ _ I1 P1 L1 e1 a1
          · skip
            refine r_iload (pc := 97) dL_law_97 rfl ?_
            refine r_iload (pc := 99) dL_law_99 rfl ?_
            refine r_icmp_ge (pc := 101) 109 dL_law_101 (by decide) (by omega) (by omega) (fun h101 => ?_) (fun h101 => ?_)
            · skip
              refine r_iload (pc := 109) dL_law_109 rfl ?_
              refine r_iload (pc := 111) dL_law_111 rfl ?_
              refine r_icmp_ne (pc := 113) 121 dL_law_113 (by decide) (by omega) (by omega) (fun h113 => ?_) (fun h113 => ?_)
              · skip
                exact st121 _ _ I1 P1 L1 e1 a1
              · skip
                refine r_iload (pc := 116) dL_law_116 rfl ?_
                refine r_if_eq (pc := 118) 133 dL_law_118 (by decide) (by omega) (fun h118 => ?_) (fun h118 => ?_)
                · exfalso; exact first_at (T := T) (m := m) (k := k) (by omega) (by omega)
                · skip
                  exact st121 _ _ I1 P1 L1 e1 a1
            · skip
              refine r_iload (pc := 104) dL_law_104 rfl ?_
              refine r_if_ne (pc := 106) 133 dL_law_106 (by decide) (by omega) (fun h106 => ?_) (fun h106 => ?_)
              · exfalso; have := first_no hFI hk (by omega); omega
              · skip
                refine r_iload (pc := 109) dL_law_109 rfl ?_
                refine r_iload (pc := 111) dL_law_111 rfl ?_
                refine r_icmp_ne (pc := 113) 121 dL_law_113 (by decide) (by omega) (by omega) (fun h113 => ?_) (fun h113 => ?_)
                · skip
                  exact st121 _ _ I1 P1 L1 e1 a1
                · skip
                  refine r_iload (pc := 116) dL_law_116 rfl ?_
                  refine r_if_eq (pc := 118) 133 dL_law_118 (by decide) (by omega) (fun h118 => ?_) (fun h118 => ?_)
                  · exfalso; exact first_at (T := T) (m := m) (k := k) (by omega) (by omega)
                  · skip
                    exact st121 _ _ I1 P1 L1 e1 a1
  refine r_iconst (pc := 68) dL_law_68 ?_
  refine r_istore (pc := 69) dL_law_69 (by decide) ?_
  refine r_iconst (pc := 71) dL_law_71 ?_
  refine r_istore (pc := 72) dL_law_72 (by decide) ?_
  exact loopK m 0 _ _ _ _ Ic Pc Lc (by omega) rfl rfl (by rw [show Y + 20 * ((0 : Nat) : Int) = Y by omega]; exact hA)

