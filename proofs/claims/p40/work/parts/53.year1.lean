/-! what the calls share -/
def YL (G : WG) (C : CF) (P : MP) : Prop := C.1 (gB G) = some (.inl 11) ∧ C.1 (gB G + 4) = some (.inr (0, 6)) ∧ P (gB G) 0 = some (gB G + 11) ∧ P (gB G) 1 = some (gB G + 91) ∧ P (gB G) 2 = some (gB G + 171) ∧ P (gB G) 3 = some (gB G + 251) ∧ P (gB G) 4 = some (gB G + 1) ∧ P (gB G) 5 = some (gB G + 331) ∧ P (gB G) 6 = some (gB G + 4) ∧ ReadL G C P (gB G + 1) ∧ LumpL G C P (gB G + 11) ∧ LumpL G C P (gB G + 91) ∧ LumpL G C P (gB G + 171) ∧ LumpL G C P (gB G + 251) ∧ TrialsL G C P (gB G + 331) ∧ KindL G C P
section Y
variable {G : WG} {C : CF} {I : MI} {P : MP} {L : ML}
theorem sX11_refuseBad {v : Int} (hy : YL G C P := by assumption) : SX11_refuseBad G [.ref (gB G), .int (zI v)] C I P L (NI C (XI v (u2 I (gB G) 8 (I (gB G) 8 + 1)) P L)) := by
  have hK := hy.1
  refine en_I (by decide +kernel) (Nat.le_of_ble_eq_true rfl) ?_
  change Wd _ _ _ _ _ _ _ _ 0 [some _, some _] [] _ _ _ _
  refine r_aload_n (pc := 0) dX11_refuseBad_0 rfl ?_
  refine r_dup (pc := 1) dX11_refuseBad_1 rfl ?_
  refine r_getI (pc := 2) dX11_refuseBad_2 frX11_294 (by assumption) ?_
  refine r_iconst (pc := 5) dX11_refuseBad_5 ?_
  refine r_iadd (pc := 6) dX11_refuseBad_6 ?_
  refine r_putI (pc := 7) dX11_refuseBad_7 fwX11_294 (by assumption) (by omega) ?_
  refine r_iload_n (pc := 10) dX11_refuseBad_10 rfl ?_
  refine t_iret (pc := 11) dX11_refuseBad_11 rfl rfl ?_
  exact ⟨rfl, rfl, rfl, rfl⟩
theorem sX11_refuseNo (hy : YL G C P := by assumption) : SX11_refuseNo G [.ref (gB G)] C I P L (NI C (XI (-3) (u2 I (gB G) 9 (I (gB G) 9 + 1)) P L)) := by
  have hK := hy.1
  refine en_I (by decide +kernel) (Nat.le_of_ble_eq_true rfl) ?_
  change Wd _ _ _ _ _ _ _ _ 0 [some _] [] _ _ _ _
  refine r_aload_n (pc := 0) dX11_refuseNo_0 rfl ?_
  refine r_dup (pc := 1) dX11_refuseNo_1 rfl ?_
  refine r_getI (pc := 2) dX11_refuseNo_2 frX11_297 (by assumption) ?_
  refine r_iconst (pc := 5) dX11_refuseNo_5 ?_
  refine r_iadd (pc := 6) dX11_refuseNo_6 ?_
  refine r_putI (pc := 7) dX11_refuseNo_7 fwX11_297 (by assumption) (by omega) ?_
  refine r_bipush (pc := 10) dX11_refuseNo_10 (by decide) ?_
  refine t_iret (pc := 12) dX11_refuseNo_12 rfl rfl ?_
  exact ⟨rfl, rfl, rfl, rfl⟩
theorem sX11_refuseFull (hy : YL G C P := by assumption) : SX11_refuseFull G [.ref (gB G)] C I P L (NI C (XI (-4) (u2 I (gB G) 10 (I (gB G) 10 + 1)) P L)) := by
  have hK := hy.1
  refine en_I (by decide +kernel) (Nat.le_of_ble_eq_true rfl) ?_
  change Wd _ _ _ _ _ _ _ _ 0 [some _] [] _ _ _ _
  refine r_aload_n (pc := 0) dX11_refuseFull_0 rfl ?_
  refine r_dup (pc := 1) dX11_refuseFull_1 rfl ?_
  refine r_getI (pc := 2) dX11_refuseFull_2 frX11_300 (by assumption) ?_
  refine r_iconst (pc := 5) dX11_refuseFull_5 ?_
  refine r_iadd (pc := 6) dX11_refuseFull_6 ?_
  refine r_putI (pc := 7) dX11_refuseFull_7 fwX11_300 (by assumption) (by omega) ?_
  refine r_bipush (pc := 10) dX11_refuseFull_10 (by decide) ?_
  refine t_iret (pc := 12) dX11_refuseFull_12 rfl rfl ?_
  exact ⟨rfl, rfl, rfl, rfl⟩
theorem sX11_isFamily {f : Int} (hy : YL G C P := by assumption) (hf : iR f := by omega) (hs : 0 ≤ I (gB G + 21) 10 ∧ I (gB G + 21) 10 ≤ 6 := by omega) : SX11_isFamily G [.ref (gB G), .int (zI f)] C I P L (NI C (XI (if 0 ≤ f ∧ f ≤ I (gB G + 21) 10 - 1 then 1 else 0) I P L)) := by
  obtain ⟨hK, hK4, hP0, hP1, hP2, hP3, hP4, hP5, hP6, hr, hl, -⟩ := id hy
  have hKl := hl.2.1
  have hPl : P (gB G + 11) 0 = some (gB G + 21) := hl.2.2.2.1
  have hKf : C.1 (gB G + 21) = some (.inl 2) := hl.2.2.2.2.2.2.2.1.2.1
  refine en_I (by decide +kernel) (Nat.le_of_ble_eq_true rfl) ?_
  change Wd _ _ _ _ _ _ _ _ 0 [some _, some _] [] _ _ _ _
  refine r_iload_n (pc := 0) dX11_isFamily_0 rfl ?_
  refine r_iconst (pc := 1) dX11_isFamily_1 ?_
  refine r_aload_n (pc := 2) dX11_isFamily_2 rfl ?_
  refine r_getP (pc := 3) dX11_isFamily_3 frX11_40 (by assumption) (by assumption) ?_
  refine r_getP (pc := 6) dX11_isFamily_6 frX11_72 (by assumption) (by assumption) ?_
  refine r_getI (pc := 9) dX11_isFamily_9 frX11_93 (by assumption) ?_
  refine r_iconst (pc := 12) dX11_isFamily_12 ?_
  refine r_isub (pc := 13) dX11_isFamily_13 ?_
  refine i_S3ix (pc := 14) okX11_within staX11_within q317 dX11_isFamily_14 (by decide) (Nat.le_of_ble_eq_true rfl) (sX11_within) ?_
  refine t_iret (pc := 17) dX11_isFamily_17 rfl (nar_z (by split <;> simp)) ?_
  exact ⟨rfl, rfl, rfl, rfl⟩
theorem sX11_imageAt {i : Nat} {x : Int} (hy : YL G C P := by assumption) (hx : x = (i : Int) := by first | rfl | omega) (hi : i < 2 := by omega) : SX11_imageAt G [.ref (gB G), .int (zI x)] C I P L (NR C (XR (gB G + 171 + 80 * i) I P L)) := by
  obtain ⟨hK, hK4, hP0, hP1, hP2, hP3, -⟩ := id hy
  refine en_R (by decide +kernel) (Nat.le_of_ble_eq_true rfl) ?_
  change Wd _ _ _ _ _ _ _ _ 0 [some _, some _] [] _ _ _ _
  refine r_iload_n (pc := 0) dX11_imageAt_0 rfl ?_
  refine r_if_ne (pc := 1) 11 dX11_imageAt_1 (by decide) (by omega) (fun h1 => ?_) (fun h1 => ?_)
  · skip
    refine r_aload_n (pc := 11) dX11_imageAt_11 rfl ?_
    refine r_getP (pc := 12) dX11_imageAt_12 frX11_50 (by assumption) (by assumption) ?_
    refine t_aret (pc := 15) dX11_imageAt_15 rfl ?_
    exact ⟨by omega, rfl, rfl, rfl⟩
  · skip
    refine r_aload_n (pc := 4) dX11_imageAt_4 rfl ?_
    refine r_getP (pc := 5) dX11_imageAt_5 frX11_47 (by assumption) (by assumption) ?_
    refine r_goto (pc := 8) 15 dX11_imageAt_8 (by decide) ?_
    refine t_aret (pc := 15) dX11_imageAt_15 rfl ?_
    exact ⟨by omega, rfl, rfl, rfl⟩
def rowL (a b c d e f : Int) : Nat → Int := fun k => if k = 0 then a else if k = 1 then b else if k = 2 then c else if k = 3 then d else if k = 4 then e else f
def letN (R : Nat → Int) : Nat → Bool
  | 0 => true
  | n + 1 => letN R n && decide (0 ≤ R n ∧ R n ≤ 25)
theorem letN_no {R : Nat → Int} {f : Nat} (h : ¬ (0 ≤ R f ∧ R f ≤ 25)) : ∀ n, f < n → letN R n = false := by
  intro n
  induction n with
  | zero => intro h; omega
  | succ n ih =>
    intro hn
    unfold letN
    by_cases hf : f = n
    · subst hf; rw [decide_eq_false h]; cases letN R f <;> rfl
    · rw [ih (by omega)]; rfl
def tallyS (F B : Nat → Int) (u n w : Int) : Int := if w = 7 then B 33 else if w = 8 then B 59 else if w = 9 then B 90 else if w = 10 then F 31 else if w = 11 then F 32 else if w = 12 then u else if w = 13 then n else F w.toNat
theorem sX11_tally {w : Int} (hy : YL G C P := by assumption) (hw : 0 ≤ w ∧ w ≤ 13 := by omega) : SX11_tally G [.ref (gB G), .int (zI w)] C I P L (NI C (XI (tallyS (rdF I (gB G + 21)) (rdB I (gB G + 12)) (I (gB G + 11) 4) (I (gB G + 1) 2) w) I P L)) := by
  obtain ⟨hK, hK4, hP0, hP1, hP2, hP3, hP4, hP5, hP6, hr, hl, -⟩ := id hy
  have hKl := hl.2.1
  have hPl : P (gB G + 11) 0 = some (gB G + 21) := hl.2.2.2.1
  have hKf : C.1 (gB G + 21) = some (.inl 2) := hl.2.2.2.2.2.2.2.1.2.1
  have hf : FarmL G C P (gB G + 21) := hl.2.2.2.2.2.2.2.1
  have hPb : P (gB G + 11) 1 = some (gB G + 12) := hl.2.2.2.2.1
  have hKb : C.1 (gB G + 12) = some (.inl 0) := hl.2.2.2.2.2.2.1.2.1
  have hKr := hr.2.1
  generalize hq : XI (tallyS (rdF I (gB G + 21)) (rdB I (gB G + 12)) (I (gB G + 11) 4) (I (gB G + 1) 2) w) I P L = q
  refine en_I (by decide +kernel) (Nat.le_of_ble_eq_true rfl) ?_
  change Wd _ _ _ _ _ _ _ _ 0 [some _, some _] [] _ _ _ _
  refine r_iload_n (pc := 0) dX11_tally_0 rfl ?_
  rcases (show w = 0 ∨ w = 1 ∨ w = 2 ∨ w = 3 ∨ w = 4 ∨ w = 5 ∨ w = 6 ∨ w = 7 ∨ w = 8 ∨ w = 9 ∨ w = 10 ∨ w = 11 ∨ w = 12 ∨ w = 13 ∨ (w < 0 ∨ 13 < w) by omega) with h1 | h1 | h1 | h1 | h1 | h1 | h1 | h1 | h1 | h1 | h1 | h1 | h1 | h1 | h1
  · skip
    refine r_tsIn (pc := 1) 72 dX11_tally_1 (by omega) (by omega) (by omega) (by rw [h1]; rfl) (by decide) ?_
    refine r_aload_n (pc := 72) dX11_tally_72 rfl ?_
    refine r_getP (pc := 73) dX11_tally_73 frX11_40 (by assumption) (by assumption) ?_
    refine r_getP (pc := 76) dX11_tally_76 frX11_72 (by assumption) (by assumption) ?_
    refine r_getI (pc := 79) dX11_tally_79 frX11_76 (by assumption) ?_
    refine t_iret (pc := 82) dX11_tally_82 rfl rfl ?_
    subst hq
    first
      | (subst h1; exact ⟨rfl, rfl, rfl, rfl⟩)
      | (exfalso; omega)
  · skip
    refine r_tsIn (pc := 1) 83 dX11_tally_1 (by omega) (by omega) (by omega) (by rw [h1]; rfl) (by decide) ?_
    refine r_aload_n (pc := 83) dX11_tally_83 rfl ?_
    refine r_getP (pc := 84) dX11_tally_84 frX11_40 (by assumption) (by assumption) ?_
    refine r_getP (pc := 87) dX11_tally_87 frX11_72 (by assumption) (by assumption) ?_
    refine r_getI (pc := 90) dX11_tally_90 frX11_328 (by assumption) ?_
    refine t_iret (pc := 93) dX11_tally_93 rfl rfl ?_
    subst hq
    first
      | (subst h1; exact ⟨rfl, rfl, rfl, rfl⟩)
      | (exfalso; omega)
  · skip
    refine r_tsIn (pc := 1) 176 dX11_tally_1 (by omega) (by omega) (by omega) (by rw [h1]; rfl) (by decide) ?_
    refine r_aload_n (pc := 176) dX11_tally_176 rfl ?_
    refine r_getP (pc := 177) dX11_tally_177 frX11_40 (by assumption) (by assumption) ?_
    refine r_getP (pc := 180) dX11_tally_180 frX11_72 (by assumption) (by assumption) ?_
    refine r_iload_n (pc := 183) dX11_tally_183 rfl ?_
    refine r_iconst (pc := 184) dX11_tally_184 ?_
    refine r_isub (pc := 185) dX11_tally_185 ?_
    refine i_V1ix (pc := 186) okX2_stock inX2_stock selX2_stock q324 dX11_tally_186 (by assumption) rfl (by decide) (Nat.le_of_ble_eq_true rfl) (sX2_stock (w := w.toNat - 2)) ?_
    refine t_iret (pc := 189) dX11_tally_189 rfl rfl ?_
    subst hq
    first
      | (subst h1; exact ⟨rfl, rfl, rfl, rfl⟩)
      | (exfalso; omega)
  · skip
    refine r_tsIn (pc := 1) 176 dX11_tally_1 (by omega) (by omega) (by omega) (by rw [h1]; rfl) (by decide) ?_
    refine r_aload_n (pc := 176) dX11_tally_176 rfl ?_
    refine r_getP (pc := 177) dX11_tally_177 frX11_40 (by assumption) (by assumption) ?_
    refine r_getP (pc := 180) dX11_tally_180 frX11_72 (by assumption) (by assumption) ?_
    refine r_iload_n (pc := 183) dX11_tally_183 rfl ?_
    refine r_iconst (pc := 184) dX11_tally_184 ?_
    refine r_isub (pc := 185) dX11_tally_185 ?_
    refine i_V1ix (pc := 186) okX2_stock inX2_stock selX2_stock q324 dX11_tally_186 (by assumption) rfl (by decide) (Nat.le_of_ble_eq_true rfl) (sX2_stock (w := w.toNat - 2)) ?_
    refine t_iret (pc := 189) dX11_tally_189 rfl rfl ?_
    subst hq
    first
      | (subst h1; exact ⟨rfl, rfl, rfl, rfl⟩)
      | (exfalso; omega)
  · skip
    refine r_tsIn (pc := 1) 176 dX11_tally_1 (by omega) (by omega) (by omega) (by rw [h1]; rfl) (by decide) ?_
    refine r_aload_n (pc := 176) dX11_tally_176 rfl ?_
    refine r_getP (pc := 177) dX11_tally_177 frX11_40 (by assumption) (by assumption) ?_
    refine r_getP (pc := 180) dX11_tally_180 frX11_72 (by assumption) (by assumption) ?_
    refine r_iload_n (pc := 183) dX11_tally_183 rfl ?_
    refine r_iconst (pc := 184) dX11_tally_184 ?_
    refine r_isub (pc := 185) dX11_tally_185 ?_
    refine i_V1ix (pc := 186) okX2_stock inX2_stock selX2_stock q324 dX11_tally_186 (by assumption) rfl (by decide) (Nat.le_of_ble_eq_true rfl) (sX2_stock (w := w.toNat - 2)) ?_
    refine t_iret (pc := 189) dX11_tally_189 rfl rfl ?_
    subst hq
    first
      | (subst h1; exact ⟨rfl, rfl, rfl, rfl⟩)
      | (exfalso; omega)
  · skip
    refine r_tsIn (pc := 1) 176 dX11_tally_1 (by omega) (by omega) (by omega) (by rw [h1]; rfl) (by decide) ?_
    refine r_aload_n (pc := 176) dX11_tally_176 rfl ?_
    refine r_getP (pc := 177) dX11_tally_177 frX11_40 (by assumption) (by assumption) ?_
    refine r_getP (pc := 180) dX11_tally_180 frX11_72 (by assumption) (by assumption) ?_
    refine r_iload_n (pc := 183) dX11_tally_183 rfl ?_
    refine r_iconst (pc := 184) dX11_tally_184 ?_
    refine r_isub (pc := 185) dX11_tally_185 ?_
    refine i_V1ix (pc := 186) okX2_stock inX2_stock selX2_stock q324 dX11_tally_186 (by assumption) rfl (by decide) (Nat.le_of_ble_eq_true rfl) (sX2_stock (w := w.toNat - 2)) ?_
    refine t_iret (pc := 189) dX11_tally_189 rfl rfl ?_
    subst hq
    first
      | (subst h1; exact ⟨rfl, rfl, rfl, rfl⟩)
      | (exfalso; omega)
  · skip
    refine r_tsIn (pc := 1) 94 dX11_tally_1 (by omega) (by omega) (by omega) (by rw [h1]; rfl) (by decide) ?_
    refine r_aload_n (pc := 94) dX11_tally_94 rfl ?_
    refine r_getP (pc := 95) dX11_tally_95 frX11_40 (by assumption) (by assumption) ?_
    refine r_getP (pc := 98) dX11_tally_98 frX11_72 (by assumption) (by assumption) ?_
    refine r_getI (pc := 101) dX11_tally_101 frX11_93 (by assumption) ?_
    refine t_iret (pc := 104) dX11_tally_104 rfl rfl ?_
    subst hq
    first
      | (subst h1; exact ⟨rfl, rfl, rfl, rfl⟩)
      | (exfalso; omega)
  · skip
    refine r_tsIn (pc := 1) 105 dX11_tally_1 (by omega) (by omega) (by omega) (by rw [h1]; rfl) (by decide) ?_
    refine r_aload_n (pc := 105) dX11_tally_105 rfl ?_
    refine r_getP (pc := 106) dX11_tally_106 frX11_40 (by assumption) (by assumption) ?_
    refine r_getP (pc := 109) dX11_tally_109 frX11_191 (by assumption) (by assumption) ?_
    refine r_getI (pc := 112) dX11_tally_112 frX11_195 (by assumption) ?_
    refine t_iret (pc := 115) dX11_tally_115 rfl rfl ?_
    subst hq
    first
      | (subst h1; exact ⟨rfl, rfl, rfl, rfl⟩)
      | (exfalso; omega)
  · skip
    refine r_tsIn (pc := 1) 116 dX11_tally_1 (by omega) (by omega) (by omega) (by rw [h1]; rfl) (by decide) ?_
    refine r_aload_n (pc := 116) dX11_tally_116 rfl ?_
    refine r_getP (pc := 117) dX11_tally_117 frX11_40 (by assumption) (by assumption) ?_
    refine r_getP (pc := 120) dX11_tally_120 frX11_191 (by assumption) (by assumption) ?_
    refine r_getI (pc := 123) dX11_tally_123 frX11_217 (by assumption) ?_
    refine t_iret (pc := 126) dX11_tally_126 rfl rfl ?_
    subst hq
    first
      | (subst h1; exact ⟨rfl, rfl, rfl, rfl⟩)
      | (exfalso; omega)
  · skip
    refine r_tsIn (pc := 1) 127 dX11_tally_1 (by omega) (by omega) (by omega) (by rw [h1]; rfl) (by decide) ?_
    refine r_aload_n (pc := 127) dX11_tally_127 rfl ?_
    refine r_getP (pc := 128) dX11_tally_128 frX11_40 (by assumption) (by assumption) ?_
    refine r_getP (pc := 131) dX11_tally_131 frX11_191 (by assumption) (by assumption) ?_
    refine r_getI (pc := 134) dX11_tally_134 frX11_254 (by assumption) ?_
    refine t_iret (pc := 137) dX11_tally_137 rfl rfl ?_
    subst hq
    first
      | (subst h1; exact ⟨rfl, rfl, rfl, rfl⟩)
      | (exfalso; omega)
  · skip
    refine r_tsIn (pc := 1) 138 dX11_tally_1 (by omega) (by omega) (by omega) (by rw [h1]; rfl) (by decide) ?_
    refine r_aload_n (pc := 138) dX11_tally_138 rfl ?_
    refine r_getP (pc := 139) dX11_tally_139 frX11_40 (by assumption) (by assumption) ?_
    refine r_getP (pc := 142) dX11_tally_142 frX11_72 (by assumption) (by assumption) ?_
    refine r_getI (pc := 145) dX11_tally_145 frX11_331 (by assumption) ?_
    refine t_iret (pc := 148) dX11_tally_148 rfl rfl ?_
    subst hq
    first
      | (subst h1; exact ⟨rfl, rfl, rfl, rfl⟩)
      | (exfalso; omega)
  · skip
    refine r_tsIn (pc := 1) 149 dX11_tally_1 (by omega) (by omega) (by omega) (by rw [h1]; rfl) (by decide) ?_
    refine r_aload_n (pc := 149) dX11_tally_149 rfl ?_
    refine r_getP (pc := 150) dX11_tally_150 frX11_40 (by assumption) (by assumption) ?_
    refine r_getP (pc := 153) dX11_tally_153 frX11_72 (by assumption) (by assumption) ?_
    refine r_getI (pc := 156) dX11_tally_156 frX11_334 (by assumption) ?_
    refine t_iret (pc := 159) dX11_tally_159 rfl rfl ?_
    subst hq
    first
      | (subst h1; exact ⟨rfl, rfl, rfl, rfl⟩)
      | (exfalso; omega)
  · skip
    refine r_tsIn (pc := 1) 160 dX11_tally_1 (by omega) (by omega) (by omega) (by rw [h1]; rfl) (by decide) ?_
    refine r_aload_n (pc := 160) dX11_tally_160 rfl ?_
    refine r_getP (pc := 161) dX11_tally_161 frX11_40 (by assumption) (by assumption) ?_
    refine r_getI (pc := 164) dX11_tally_164 frX11_337 (by assumption) ?_
    refine t_iret (pc := 167) dX11_tally_167 rfl rfl ?_
    subst hq
    first
      | (subst h1; exact ⟨rfl, rfl, rfl, rfl⟩)
      | (exfalso; omega)
  · skip
    refine r_tsIn (pc := 1) 168 dX11_tally_1 (by omega) (by omega) (by omega) (by rw [h1]; rfl) (by decide) ?_
    refine r_aload_n (pc := 168) dX11_tally_168 rfl ?_
    refine r_getP (pc := 169) dX11_tally_169 frX11_10 (by assumption) (by assumption) ?_
    refine r_getI (pc := 172) dX11_tally_172 frX11_117 (by assumption) ?_
    refine t_iret (pc := 175) dX11_tally_175 rfl rfl ?_
    subst hq
    first
      | (subst h1; exact ⟨rfl, rfl, rfl, rfl⟩)
      | (exfalso; omega)
  · skip
    refine r_tsOut (pc := 1) 176 dX11_tally_1 (by omega) h1 (by decide) ?_
    refine r_aload_n (pc := 176) dX11_tally_176 rfl ?_
    refine r_getP (pc := 177) dX11_tally_177 frX11_40 (by assumption) (by assumption) ?_
    refine r_getP (pc := 180) dX11_tally_180 frX11_72 (by assumption) (by assumption) ?_
    refine r_iload_n (pc := 183) dX11_tally_183 rfl ?_
    refine r_iconst (pc := 184) dX11_tally_184 ?_
    refine r_isub (pc := 185) dX11_tally_185 ?_
    refine i_V1ix (pc := 186) okX2_stock inX2_stock selX2_stock q324 dX11_tally_186 (by assumption) rfl (by decide) (Nat.le_of_ble_eq_true rfl) (sX2_stock (w := w.toNat - 2)) ?_
    refine t_iret (pc := 189) dX11_tally_189 rfl rfl ?_
    subst hq
    first
      | (subst h1; exact ⟨rfl, rfl, rfl, rfl⟩)
      | (exfalso; omega)
def gcdR : Nat → Int → Int → Int
  | 0, a, _ => a
  | d + 1, a, b => if b = 0 then a else gcdR d b (a % b)
end Y


