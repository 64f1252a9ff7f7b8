/-! the reference: cleared -/
def grI (net : Nat → Int) (n : Nat) (tb : Nat → Int) (s : Nat) : Nat → Nat → Int → Int
  | 0, _, g => g
  | d + 1, p, g => if p = 0 then g else grI net n tb s d ((p - 1) &&& s) (if g < (if sumN net p n = 0 then tb (s ^^^ p) + 1 else -1000000) then (if sumN net p n = 0 then tb (s ^^^ p) + 1 else -1000000) else g)
theorem grI_st (net : Nat → Int) (n : Nat) (tb : Nat → Int) (s d p : Nat) (g : Int) : grI net n tb s (d + 1) p g = if p = 0 then g else grI net n tb s d ((p - 1) &&& s) (if g < (if sumN net p n = 0 then tb (s ^^^ p) + 1 else -1000000) then (if sumN net p n = 0 then tb (s ^^^ p) + 1 else -1000000) else g) := rfl
theorem grI_0 (net : Nat → Int) (n : Nat) (tb : Nat → Int) (s : Nat) (g : Int) : ∀ d, grI net n tb s d 0 g = g := by
  intro d
  cases d with
  | zero => rfl
  | succ d => rw [grI_st, if_pos rfl]
def tabG (net : Nat → Int) (n : Nat) : Nat → Nat → Int
  | 0 => fun _ => 0
  | s + 1 => up (tabG net n s) (s + 1) (grI net n (tabG net n s) (s + 1) 64 (s + 1) (-1000000))
def mkS (net : Nat → Int) : Nat → Nat
  | 0 => 0
  | k + 1 => mkS net k ||| (if net k = 0 then 0 else 2 ^ k)
theorem mkS_lt (net : Nat → Int) : ∀ k, mkS net k < 2 ^ k := by
  intro k
  induction k with
  | zero => exact Nat.zero_lt_one
  | succ k ih =>
    have e : mkS net (k + 1) = mkS net k ||| (if net k = 0 then 0 else 2 ^ k) := rfl
    have h2 : 2 ^ k < 2 ^ (k + 1) := Nat.pow_lt_pow_right (by decide) (by omega)
    rw [e]
    refine Nat.or_lt_two_pow (by omega) ?_
    split
    · omega
    · exact h2
theorem sub_tab : ∀ s p : Fin 64, p.val &&& s.val = p.val → 1 ≤ p.val → b_and (s.val : Int) (b_xor (p.val : Int) (-1)) = ((s.val ^^^ p.val : Nat) : Int) ∧ (s.val ^^^ p.val) < s.val ∧ ((p.val - 1) &&& s.val) &&& s.val = (p.val - 1) &&& s.val ∧ (p.val - 1) &&& s.val < p.val := by decide +kernel
def payN (N : Nat → Int) : Int := (popW 30 (mkS (netF N (awayF N)) (sizeF N)) : Int) - tabG (netF N (awayF N)) (sizeF N) (2 ^ sizeF N - 1) (mkS (netF N (awayF N)) (sizeF N))
section REF20
variable {G : WG} {C : CF} {I : MI} {P : MP} {L : ML} {m n : Nat} {Y : Int}
theorem sX12_cleared (hm : RfL G C P m := by assumption) (hF : FI (I (m + 1)) Y := by assumption) (hY : Y ≤ 1000000 := by omega) (hBI : BI (I (m + 1)) := by assumption) : SX12_cleared G [.ref m] C I P L (NI C (QZ m (payN (I (m + 1))) (rdM m I L) P)) := by
  obtain ⟨hBm, hKm, hK1, hK2, hK3, hK4, hK5, hK6, hK7, hK8, hK9, hK10, hK11, hP0, hP1, hP2, hP3, hP6, hP7, hP8, hP9, hP10, hP16, hP17⟩ := id hm
  obtain ⟨hs6, hsz⟩ := sizeF_le hF
  have hnet : ∀ f, -320000 ≤ netF (I (m + 1)) (awayF (I (m + 1))) f ∧ netF (I (m + 1)) (awayF (I (m + 1))) f ≤ 320000 := by
    intro f
    have hspan : 2 ≤ I (m + 1) 0 ∧ I (m + 1) 0 ≤ 70 := hF.1
    have hyr : 0 ≤ I (m + 1) 1 ∧ I (m + 1) 1 ≤ Y := hF.2.1
    have hm1 : 0 ≤ I (m + 1) 1 % I (m + 1) 0 ∧ I (m + 1) 1 % I (m + 1) 0 < I (m + 1) 0 := ⟨Int.emod_nonneg _ (by omega), Int.emod_lt_of_pos _ (by omega)⟩
    have hw : 0 ≤ awayF (I (m + 1)) ∧ awayF (I (m + 1)) ≤ 69 := by unfold awayF; omega
    have h1 := hBI.2.1
    have h2 := balB_in hBI hw (f : Int) (I (m + 1) 33).toNat (by omega)
    unfold netF
    omega
  have hnf : ∀ c : Nat, balB (I (m + 1)) (awayF (I (m + 1))) (c : Int) (I (m + 1) 33).toNat = netF (I (m + 1)) (awayF (I (m + 1))) c := fun c => rfl
  obtain ⟨n, hnn⟩ : ∃ n, n = sizeF (I (m + 1)) := ⟨_, rfl⟩
  have h6n : I (m + 1) 6 = (n : Int) := by omega
  have hshl : b_shl 1 (I (m + 1) 6) = ((2 ^ n : Nat) : Int) := by rw [h6n]; exact b_shl1 (by omega)
  have h64 : 2 ^ n ≤ 64 := (show 2 ^ n ≤ 2 ^ 6 from Nat.pow_le_pow_right (by decide) (by omega))
  have h2n : 1 ≤ 2 ^ n := Nat.one_le_two_pow
  have hp : payN (I (m + 1)) = (popW 30 (mkS (netF (I (m + 1)) (awayF (I (m + 1)))) n) : Int) - tabG (netF (I (m + 1)) (awayF (I (m + 1)))) n (2 ^ n - 1) (mkS (netF (I (m + 1)) (awayF (I (m + 1)))) n) := by rw [hnn]; rfl
  rw [hp]
  clear hp
  generalize hNet : netF (I (m + 1)) (awayF (I (m + 1))) = net at *
  have hmk := mkS_lt net n
  have hpW := popW_le 30 (mkS net n)
  generalize hMS : mkS net n = M at *
  obtain ⟨pw, hPWe⟩ : ∃ pw : Nat, pw = popW 30 M := ⟨_, rfl⟩
  rw [← hPWe] at hpW ⊢
  have hPW : ∀ _u : Unit, popW 30 M = pw := fun _ => hPWe.symm
  clear hPWe
  generalize hA : 2 ^ n = A at *
  refine en_I (by decide +kernel) (Nat.le_of_ble_eq_true rfl) ?_
  change Wd _ _ _ _ _ _ _ _ 0 [some _, none, none, none, none] [] _ _ _ _
  have outer : ∀ _u : Unit, ∀ (W7 : Nat → Int) (d s : Nat) (i : Int) (Q : Nat → Int) (l3 l4 : Option Value), (∀ f, f < n → W7 f = net f) → s + d = A → 1 ≤ s → i = (s : Int) → (∀ j, j < s → Q j = tabG net n (s - 1) j) → (∀ j, j < s → -1000000 ≤ Q j ∧ Q j ≤ s) → Wd G yX12_cleared cX12_cleared 5 (some .int) 2 (C.2.1 + 0, C.2.2 + 0) (NI C (QZ m ((pw : Int) - tabG net n (A - 1) M) (rdM m I L) P)) 57 [some (.ref m), some (.int (zI (M : Int))), some (.int (zI i)), l3, l4] [] C (uR (uR I (m + 7) W7) (m + 6) Q) P L := by
    intro _ W7 d
    induction d with
    | zero =>
      intro s i Q l3 l4 hW hd hs1 hi hQ hQi
      have hQM := hQi M (by omega)
      refine r_iload_n (pc := 57) dX12_cleared_57 rfl ?_
      refine r_iconst (pc := 58) dX12_cleared_58 ?_
      refine r_aload_n (pc := 59) dX12_cleared_59 rfl ?_
      refine i_V0ix (pc := 60) okX12_families inX12_families selX12_families q1118 dX12_cleared_60 (by assumption) rfl (by decide) (Nat.le_of_ble_eq_true rfl) (sX12_families (R := I (m + 1)) (hR := by rw [uR_n _ _ (by omega), uR_n _ _ (by omega)])) ?_
      try simp only [u2_I, uR_uR, uR_app, eq_self, Nat.reduceEqDiff, Nat.add_eq_left, Nat.left_eq_add, ↓reduceIte]
      refine r_ishl (pc := 63) dX12_cleared_63 ?_
      rw [hshl]
      refine r_icmp_ge (pc := 64) 151 dX12_cleared_64 (by decide) (by omega) (by omega) (fun h64 => ?_) (fun h64 => ?_)
      · skip
        refine r_iload_n (pc := 151) dX12_cleared_151 rfl ?_
        refine i_S1ix (pc := 152) okX12_bits staX12_bits q1266 dX12_cleared_152 (by decide) (Nat.le_of_ble_eq_true rfl) (sX12_bits (s := M)) ?_
        try simp only [u2_I, uR_uR, uR_app, eq_self, Nat.reduceEqDiff, Nat.add_eq_left, Nat.left_eq_add, ↓reduceIte]
        rw [hPW ()]
        refine r_aload_n (pc := 155) dX12_cleared_155 rfl ?_
        refine r_getA (pc := 156) dX12_cleared_156 frX12_30 (by assumption) (by assumption) ?_
        refine r_iload_n (pc := 159) dX12_cleared_159 rfl ?_
        refine r_iald (j := M) (pc := 160) dX12_cleared_160 (by assumption) (by omega) (by omega) (by omega) ?_
        try simp only [u2_I, uR_uR, uR_app, eq_self, Nat.reduceEqDiff, Nat.add_eq_left, Nat.left_eq_add, ↓reduceIte]
        refine r_isub (pc := 161) dX12_cleared_161 ?_
        refine t_iret (pc := 162) dX12_cleared_162 rfl rfl ?_
        refine QZ_mk ?_ ?_ rfl
        · rw [hQ M (by omega), show s = A by omega]
        · unfold rdM
          simp only [uR_app, Nat.reduceEqDiff, Nat.add_eq_left, Nat.left_eq_add, ↓reduceIte]
      · exfalso; omega
    | succ d ih =>
      intro s i Q l3 l4 hW hd hs1 hi hQ hQi
      have hs64 : s < 64 := by omega
      have inner : ∀ _u : Unit, ∀ (e p : Nat) (g x : Int) (l4 : Option Value), p ≤ e → p ≤ s → p &&& s = p → x = (p : Int) → -1000000 ≤ g → g ≤ s + 1 → grI net n (tabG net n (s - 1)) s e p g = tabG net n s s → Wd G yX12_cleared cX12_cleared 5 (some .int) 2 (C.2.1 + 0, C.2.2 + 0) (NI C (QZ m ((pw : Int) - tabG net n (A - 1) M) (rdM m I L) P)) 77 [some (.ref m), some (.int (zI (M : Int))), some (.int (zI i)), some (.int (zI x)), l4] [] C (uR (uR I (m + 7) W7) (m + 6) (up Q s g)) P L := by
        intro _ e
        induction e with
        | zero =>
          intro p g x l4 hpe hps hsub hx hg1 hg2 hG
          have hp0 : p = 0 := by omega
          subst hp0
          rw [grI_0] at hG
          refine r_iload_n (pc := 77) dX12_cleared_77 rfl ?_
          refine r_if_le (pc := 78) 145 dX12_cleared_78 (by decide) (by omega) (fun h78 => ?_) (fun h78 => ?_)
          · skip
            refine r_iinc (pc := 145) dX12_cleared_145 rfl ?_
            refine r_goto (pc := 148) 57 dX12_cleared_148 (by decide) ?_
            refine ih (s + 1) _ (up Q s g) _ _ hW (by omega) (by omega) (by omega) ?_ ?_
            · intro j hj
              rw [up_app, show s + 1 - 1 = s by omega]
              by_cases hjs : j = s
              · rw [if_pos hjs, hjs]; exact hG
              · rw [if_neg hjs, hQ j (by omega)]
                obtain ⟨q, rfl⟩ : ∃ q, s = q + 1 := ⟨s - 1, by omega⟩
                exact (up_n _ _ (by omega)).symm
            · intro j hj
              rw [up_app]
              by_cases hjs : j = s
              · rw [if_pos hjs]; omega
              · rw [if_neg hjs]; have := hQi j (by omega); omega
          · exfalso; omega
        | succ e ihe =>
          intro p g x l4 hpe hps hsub hx hg1 hg2 hG
          by_cases hp0 : p = 0
          · refine ihe p g x l4 (by omega) hps hsub hx hg1 hg2 ?_
            rw [hp0, grI_0]; rw [hp0, grI_0] at hG; exact hG
          · have st := sub_tab ⟨s, by omega⟩ ⟨p, by omega⟩ hsub (by show 1 ≤ p; omega)
            simp only at st
            obtain ⟨st1, st2, st3, st4⟩ := st
            have hsp := hQ (s ^^^ p) st2
            have hspi := hQi (s ^^^ p) st2
            have hand : b_and ((p : Int) - 1) (s : Int) = (((p - 1) &&& s : Nat) : Int) := by rw [show (p : Int) - 1 = ((p - 1 : Nat) : Int) by omega]; exact b_andN (by omega)
            have hsm := sumN_in (net := W7) (s := p) (n := n) (fun f hf => by rw [hW f hf]; exact hnet f) n (by omega)
            have hsc : ∀ k, k ≤ n → sumN W7 p k = sumN net p k := by
              intro k
              induction k with
              | zero => intro _; rfl
              | succ k ihk =>
                intro hk
                show sumN W7 p k + _ = sumN net p k + _
                rw [ihk (by omega), hW k (by omega)]
            have hsn := hsc n (by omega)
            have eg : up Q s g s = g := up_s _ _ _
            rw [grI_st, if_neg hp0, ← hsp] at hG
            subst hx
            subst hi
            refine r_iload_n (pc := 77) dX12_cleared_77 rfl ?_
            refine r_if_le (pc := 78) 145 dX12_cleared_78 (by decide) (by omega) (fun h78 => ?_) (fun h78 => ?_)
            · exfalso; omega
            · skip
              refine r_aload_n (pc := 81) dX12_cleared_81 rfl ?_
              refine r_iload_n (pc := 82) dX12_cleared_82 rfl ?_
              refine i_V1ix (pc := 83) okX12_sumOf inX12_sumOf selX12_sumOf q1311 dX12_cleared_83 (by assumption) rfl (by decide) (Nat.le_of_ble_eq_true rfl) (sX12_sumOf (n := n) (s := p) (hn := by rw [uR_n _ _ (by omega), uR_n _ _ (by omega)]; exact h6n) (hN := fun f hf => by rw [show (uR (uR I (m + 7) W7) (m + 6) (up Q s g)) (m + 7) f = W7 f by rw [uR_n _ _ (by omega), uR_s], hW f hf]; exact hnet f)) ?_
              try simp only [u2_I, uR_uR, uR_app, eq_self, Nat.reduceEqDiff, Nat.add_eq_left, Nat.left_eq_add, ↓reduceIte]
              rw [hsn] at hsm ⊢
              refine r_if_ne (pc := 86) 104 dX12_cleared_86 (by decide) (by omega) (fun h86 => ?_) (fun h86 => ?_)
              · skip
                refine r_ldc (v := (-1000000 : Int)) (pc := 104) dX12_cleared_104 kcX12_200 ?_
                refine r_istore (pc := 106) dX12_cleared_106 (by decide) ?_
                refine r_aload_n (pc := 108) dX12_cleared_108 rfl ?_
                refine r_getA (pc := 109) dX12_cleared_109 frX12_30 (by assumption) (by assumption) ?_
                refine r_iload_n (pc := 112) dX12_cleared_112 rfl ?_
                refine r_iload (pc := 113) dX12_cleared_113 rfl ?_
                refine r_aload_n (pc := 115) dX12_cleared_115 rfl ?_
                refine r_getA (pc := 116) dX12_cleared_116 frX12_30 (by assumption) (by assumption) ?_
                refine r_iload_n (pc := 119) dX12_cleared_119 rfl ?_
                refine r_iald (j := s) (pc := 120) dX12_cleared_120 (by assumption) (by omega) (by omega) (by omega) ?_
                try simp only [u2_I, uR_uR, uR_app, eq_self, Nat.reduceEqDiff, Nat.add_eq_left, Nat.left_eq_add, ↓reduceIte]
                refine r_icmp_le (pc := 121) 129 dX12_cleared_121 (by decide) (by omega) (by omega) (fun h121 => ?_) (fun h121 => ?_)
                · skip
                  refine r_aload_n (pc := 129) dX12_cleared_129 rfl ?_
                  refine r_getA (pc := 130) dX12_cleared_130 frX12_30 (by assumption) (by assumption) ?_
                  refine r_iload_n (pc := 133) dX12_cleared_133 rfl ?_
                  refine r_iald (j := s) (pc := 134) dX12_cleared_134 (by assumption) (by omega) (by omega) (by omega) ?_
                  try simp only [u2_I, uR_uR, uR_app, eq_self, Nat.reduceEqDiff, Nat.add_eq_left, Nat.left_eq_add, ↓reduceIte]
                  refine r_iast (j := s) (pc := 135) dX12_cleared_135 (by assumption) (by omega) (by omega) (by omega) (by omega) ?_
                  try simp only [u2_I, uR_uR, uR_app, eq_self, Nat.reduceEqDiff, Nat.add_eq_left, Nat.left_eq_add, ↓reduceIte]
                  refine r_iload_n (pc := 136) dX12_cleared_136 rfl ?_
                  refine r_iconst (pc := 137) dX12_cleared_137 ?_
                  refine r_isub (pc := 138) dX12_cleared_138 ?_
                  refine r_iload_n (pc := 139) dX12_cleared_139 rfl ?_
                  refine r_iand (pc := 140) dX12_cleared_140 ?_
                  rw [hand]
                  refine r_istore_n (pc := 141) dX12_cleared_141 (by decide) ?_
                  refine r_goto (pc := 142) 77 dX12_cleared_142 (by decide) ?_
                  first
                  | (exfalso; omega)
                  | (rw [up_up, eg]
                     rw [if_neg h86, if_neg (show ¬ g < -1000000 by omega)] at hG
                     refine ihe _ _ _ _ (by omega) (by omega) st3 rfl (by omega) (by omega) hG)
                · skip
                  refine r_iload (pc := 124) dX12_cleared_124 rfl ?_
                  refine r_goto (pc := 126) 135 dX12_cleared_126 (by decide) ?_
                  refine r_iast (j := s) (pc := 135) dX12_cleared_135 (by assumption) (by omega) (by omega) (by omega) (by omega) ?_
                  try simp only [u2_I, uR_uR, uR_app, eq_self, Nat.reduceEqDiff, Nat.add_eq_left, Nat.left_eq_add, ↓reduceIte]
                  refine r_iload_n (pc := 136) dX12_cleared_136 rfl ?_
                  refine r_iconst (pc := 137) dX12_cleared_137 ?_
                  refine r_isub (pc := 138) dX12_cleared_138 ?_
                  refine r_iload_n (pc := 139) dX12_cleared_139 rfl ?_
                  refine r_iand (pc := 140) dX12_cleared_140 ?_
                  rw [hand]
                  refine r_istore_n (pc := 141) dX12_cleared_141 (by decide) ?_
                  refine r_goto (pc := 142) 77 dX12_cleared_142 (by decide) ?_
                  first
                  | (exfalso; omega)
                  | (rw [up_up, eg]
                     rw [if_neg h86, if_neg (show ¬ g < -1000000 by omega)] at hG
                     refine ihe _ _ _ _ (by omega) (by omega) st3 rfl (by omega) (by omega) hG)
              · skip
                refine r_aload_n (pc := 89) dX12_cleared_89 rfl ?_
                refine r_getA (pc := 90) dX12_cleared_90 frX12_30 (by assumption) (by assumption) ?_
                refine r_iload_n (pc := 93) dX12_cleared_93 rfl ?_
                refine r_iload_n (pc := 94) dX12_cleared_94 rfl ?_
                refine r_iconst (pc := 95) dX12_cleared_95 ?_
                refine r_ixor (pc := 96) dX12_cleared_96 ?_
                refine r_iand (pc := 97) dX12_cleared_97 ?_
                rw [st1]
                refine r_iald (j := s ^^^ p) (pc := 98) dX12_cleared_98 (by assumption) (by omega) (by omega) (by omega) ?_
                try simp only [u2_I, uR_uR, uR_app, eq_self, Nat.reduceEqDiff, Nat.add_eq_left, Nat.left_eq_add, ↓reduceIte]
                rw [up_n _ _ (by omega)]
                refine r_iconst (pc := 99) dX12_cleared_99 ?_
                refine r_iadd (pc := 100) dX12_cleared_100 ?_
                refine r_goto (pc := 101) 106 dX12_cleared_101 (by decide) ?_
                refine r_istore (pc := 106) dX12_cleared_106 (by decide) ?_
                refine r_aload_n (pc := 108) dX12_cleared_108 rfl ?_
                refine r_getA (pc := 109) dX12_cleared_109 frX12_30 (by assumption) (by assumption) ?_
                refine r_iload_n (pc := 112) dX12_cleared_112 rfl ?_
                refine r_iload (pc := 113) dX12_cleared_113 rfl ?_
                refine r_aload_n (pc := 115) dX12_cleared_115 rfl ?_
                refine r_getA (pc := 116) dX12_cleared_116 frX12_30 (by assumption) (by assumption) ?_
                refine r_iload_n (pc := 119) dX12_cleared_119 rfl ?_
                refine r_iald (j := s) (pc := 120) dX12_cleared_120 (by assumption) (by omega) (by omega) (by omega) ?_
                try simp only [u2_I, uR_uR, uR_app, eq_self, Nat.reduceEqDiff, Nat.add_eq_left, Nat.left_eq_add, ↓reduceIte]
                refine r_icmp_le (pc := 121) 129 dX12_cleared_121 (by decide) (by omega) (by omega) (fun h121 => ?_) (fun h121 => ?_)
                · skip
                  refine r_aload_n (pc := 129) dX12_cleared_129 rfl ?_
                  refine r_getA (pc := 130) dX12_cleared_130 frX12_30 (by assumption) (by assumption) ?_
                  refine r_iload_n (pc := 133) dX12_cleared_133 rfl ?_
                  refine r_iald (j := s) (pc := 134) dX12_cleared_134 (by assumption) (by omega) (by omega) (by omega) ?_
                  try simp only [u2_I, uR_uR, uR_app, eq_self, Nat.reduceEqDiff, Nat.add_eq_left, Nat.left_eq_add, ↓reduceIte]
                  refine r_iast (j := s) (pc := 135) dX12_cleared_135 (by assumption) (by omega) (by omega) (by omega) (by omega) ?_
                  try simp only [u2_I, uR_uR, uR_app, eq_self, Nat.reduceEqDiff, Nat.add_eq_left, Nat.left_eq_add, ↓reduceIte]
                  refine r_iload_n (pc := 136) dX12_cleared_136 rfl ?_
                  refine r_iconst (pc := 137) dX12_cleared_137 ?_
                  refine r_isub (pc := 138) dX12_cleared_138 ?_
                  refine r_iload_n (pc := 139) dX12_cleared_139 rfl ?_
                  refine r_iand (pc := 140) dX12_cleared_140 ?_
                  rw [hand]
                  refine r_istore_n (pc := 141) dX12_cleared_141 (by decide) ?_
                  refine r_goto (pc := 142) 77 dX12_cleared_142 (by decide) ?_
                  rw [up_up, eg]
                  rw [if_pos h86, if_neg (by omega)] at hG
                  refine ihe _ _ _ _ (by omega) (by omega) st3 rfl (by omega) (by omega) hG
                · skip
                  refine r_iload (pc := 124) dX12_cleared_124 rfl ?_
                  refine r_goto (pc := 126) 135 dX12_cleared_126 (by decide) ?_
                  refine r_iast (j := s) (pc := 135) dX12_cleared_135 (by assumption) (by omega) (by omega) (by omega) (by omega) ?_
                  try simp only [u2_I, uR_uR, uR_app, eq_self, Nat.reduceEqDiff, Nat.add_eq_left, Nat.left_eq_add, ↓reduceIte]
                  refine r_iload_n (pc := 136) dX12_cleared_136 rfl ?_
                  refine r_iconst (pc := 137) dX12_cleared_137 ?_
                  refine r_isub (pc := 138) dX12_cleared_138 ?_
                  refine r_iload_n (pc := 139) dX12_cleared_139 rfl ?_
                  refine r_iand (pc := 140) dX12_cleared_140 ?_
                  rw [hand]
                  refine r_istore_n (pc := 141) dX12_cleared_141 (by decide) ?_
                  refine r_goto (pc := 142) 77 dX12_cleared_142 (by decide) ?_
                  rw [up_up]
                  rw [if_pos h86, if_pos (by omega)] at hG
                  refine ihe _ _ _ _ (by omega) (by omega) st3 rfl (by omega) (by omega) hG
      refine r_iload_n (pc := 57) dX12_cleared_57 rfl ?_
      refine r_iconst (pc := 58) dX12_cleared_58 ?_
      refine r_aload_n (pc := 59) dX12_cleared_59 rfl ?_
      refine i_V0ix (pc := 60) okX12_families inX12_families selX12_families q1118 dX12_cleared_60 (by assumption) rfl (by decide) (Nat.le_of_ble_eq_true rfl) (sX12_families (R := I (m + 1)) (hR := by rw [uR_n _ _ (by omega), uR_n _ _ (by omega)])) ?_
      try simp only [u2_I, uR_uR, uR_app, eq_self, Nat.reduceEqDiff, Nat.add_eq_left, Nat.left_eq_add, ↓reduceIte]
      refine r_ishl (pc := 63) dX12_cleared_63 ?_
      rw [hshl]
      refine r_icmp_ge (pc := 64) 151 dX12_cleared_64 (by decide) (by omega) (by omega) (fun h64 => ?_) (fun h64 => ?_)
      · exfalso; omega
      · skip
        refine r_aload_n (pc := 67) dX12_cleared_67 rfl ?_
        refine r_getA (pc := 68) dX12_cleared_68 frX12_30 (by assumption) (by assumption) ?_
        refine r_iload_n (pc := 71) dX12_cleared_71 rfl ?_
        refine r_ldc (v := (-1000000 : Int)) (pc := 72) dX12_cleared_72 kcX12_200 ?_
        refine r_iast (j := s) (pc := 74) dX12_cleared_74 (by assumption) (by omega) (by omega) (by omega) (by omega) ?_
        try simp only [u2_I, uR_uR, uR_app, eq_self, Nat.reduceEqDiff, Nat.add_eq_left, Nat.left_eq_add, ↓reduceIte]
        refine r_iload_n (pc := 75) dX12_cleared_75 rfl ?_
        refine r_istore_n (pc := 76) dX12_cleared_76 (by decide) ?_
        refine inner () 64 s (-1000000) _ _ (by omega) (Nat.le_refl _) (Nat.and_self s) hi (by omega) (by omega) ?_
        obtain ⟨q, rfl⟩ : ∃ q, s = q + 1 := ⟨s - 1, by omega⟩
        exact (up_s _ _ _).symm
  have first : ∀ (d f : Nat) (i a : Int), f + d = n → i = (f : Int) → a = (mkS net f : Int) → Wd G yX12_cleared cX12_cleared 5 (some .int) 2 (C.2.1 + 0, C.2.2 + 0) (NI C (QZ m ((pw : Int) - tabG net n (A - 1) M) (rdM m I L) P)) 4 [some (.ref m), some (.int (zI a)), some (.int (zI i)), none, none] [] C (uR I (m + 7) (cpN net (I (m + 7)) f)) P L := by
    intro d
    induction d with
    | zero =>
      intro f i a hd hi ha
      have hfn : f = n := by omega
      subst hfn
      rw [hMS] at ha
      subst ha
      refine r_iload_n (pc := 4) dX12_cleared_4 rfl ?_
      refine r_aload_n (pc := 5) dX12_cleared_5 rfl ?_
      refine i_V0ix (pc := 6) okX12_families inX12_families selX12_families q1118 dX12_cleared_6 (by assumption) rfl (by decide) (Nat.le_of_ble_eq_true rfl) (sX12_families (R := I (m + 1)) (hR := by rw [uR_n _ _ (by omega)])) ?_
      try simp only [u2_I, uR_uR, uR_app, eq_self, Nat.reduceEqDiff, Nat.add_eq_left, Nat.left_eq_add, ↓reduceIte]
      refine r_icmp_ge (pc := 9) 48 dX12_cleared_9 (by decide) (by omega) (by omega) (fun h9 => ?_) (fun h9 => ?_)
      · skip
        refine r_aload_n (pc := 48) dX12_cleared_48 rfl ?_
        refine r_getA (pc := 49) dX12_cleared_49 frX12_30 (by assumption) (by assumption) ?_
        refine r_iconst (pc := 52) dX12_cleared_52 ?_
        refine r_iconst (pc := 53) dX12_cleared_53 ?_
        refine r_iast (j := 0) (pc := 54) dX12_cleared_54 (by assumption) (by omega) rfl (by omega) (by omega) ?_
        try simp only [u2_I, uR_uR, uR_app, eq_self, Nat.reduceEqDiff, Nat.add_eq_left, Nat.left_eq_add, ↓reduceIte]
        refine r_iconst (pc := 55) dX12_cleared_55 ?_
        refine r_istore_n (pc := 56) dX12_cleared_56 (by decide) ?_
        refine outer () (cpN net (I (m + 7)) f) (A - 1) 1 _ _ _ _ ?_ (by omega) (by omega) rfl ?_ ?_
        · intro c hc; unfold cpN; rw [if_pos hc]
        · intro j hj; rw [show j = 0 by omega, up_s]; rfl
        · intro j hj; rw [show j = 0 by omega, up_s]; omega
      · exfalso; omega
    | succ d ih =>
      intro f i a hd hi ha
      subst hi
      have hmf := mkS_lt net f
      have hmf2 : 2 ^ f < 64 := Nat.lt_of_lt_of_le (Nat.pow_lt_pow_right (by decide) (by omega)) (show 2 ^ 6 ≤ 64 by decide)
      have hshf : b_shl 1 (f : Int) = ((2 ^ f : Nat) : Int) := b_shl1 (by omega)
      have hor1 : b_or (mkS net f : Int) ((2 ^ f : Nat) : Int) = ((mkS net f ||| 2 ^ f : Nat) : Int) := b_orN (k := 7) (by omega) (by omega) (by decide)
      have hor0 : b_or (mkS net f : Int) 0 = ((mkS net f ||| 0 : Nat) : Int) := b_orN (k := 7) (b := 0) (by omega) (by decide) (by decide)
      have e : mkS net (f + 1) = mkS net f ||| (if net f = 0 then 0 else 2 ^ f) := rfl
      have hnef := hnet f
      subst ha
      refine r_iload_n (pc := 4) dX12_cleared_4 rfl ?_
      refine r_aload_n (pc := 5) dX12_cleared_5 rfl ?_
      refine i_V0ix (pc := 6) okX12_families inX12_families selX12_families q1118 dX12_cleared_6 (by assumption) rfl (by decide) (Nat.le_of_ble_eq_true rfl) (sX12_families (R := I (m + 1)) (hR := by rw [uR_n _ _ (by omega)])) ?_
      try simp only [u2_I, uR_uR, uR_app, eq_self, Nat.reduceEqDiff, Nat.add_eq_left, Nat.left_eq_add, ↓reduceIte]
      refine r_icmp_ge (pc := 9) 48 dX12_cleared_9 (by decide) (by omega) (by omega) (fun h9 => ?_) (fun h9 => ?_)
      · exfalso; omega
      · skip
        refine r_aload_n (pc := 12) dX12_cleared_12 rfl ?_
        refine r_getA (pc := 13) dX12_cleared_13 frX12_33 (by assumption) (by assumption) ?_
        refine r_iload_n (pc := 16) dX12_cleared_16 rfl ?_
        refine r_aload_n (pc := 17) dX12_cleared_17 rfl ?_
        refine r_iload_n (pc := 18) dX12_cleared_18 rfl ?_
        refine i_V1ix (pc := 19) okX12_netOf inX12_netOf selX12_netOf q1301 dX12_cleared_19 (by assumption) rfl (by decide) (Nat.le_of_ble_eq_true rfl) (sX12_netOf (Y := Y) (hF := by rw [uR_n _ _ (by omega)]; exact hF) (hBI := by rw [uR_n _ _ (by omega)]; exact hBI)) ?_
        try simp only [u2_I, uR_uR, uR_app, eq_self, Nat.reduceEqDiff, Nat.add_eq_left, Nat.left_eq_add, ↓reduceIte]
        rw [hnf]
        refine r_iast (j := f) (pc := 22) dX12_cleared_22 (by assumption) (by omega) (by omega) (by omega) (by omega) ?_
        try simp only [u2_I, uR_uR, uR_app, eq_self, Nat.reduceEqDiff, Nat.add_eq_left, Nat.left_eq_add, ↓reduceIte]
        refine r_iload_n (pc := 23) dX12_cleared_23 rfl ?_
        refine r_aload_n (pc := 24) dX12_cleared_24 rfl ?_
        refine r_getA (pc := 25) dX12_cleared_25 frX12_33 (by assumption) (by assumption) ?_
        refine r_iload_n (pc := 28) dX12_cleared_28 rfl ?_
        refine r_iald (j := f) (pc := 29) dX12_cleared_29 (by assumption) (by omega) (by omega) (by omega) ?_
        try simp only [u2_I, uR_uR, uR_app, eq_self, Nat.reduceEqDiff, Nat.add_eq_left, Nat.left_eq_add, ↓reduceIte]
        rw [up_s]
        refine r_if_eq (pc := 30) 39 dX12_cleared_30 (by decide) (by omega) (fun h30 => ?_) (fun h30 => ?_)
        · skip
          refine r_iconst (pc := 39) dX12_cleared_39 ?_
          refine r_ior (pc := 40) dX12_cleared_40 ?_
          refine r_istore_n (pc := 41) dX12_cleared_41 (by decide) ?_
          refine r_iinc (pc := 42) dX12_cleared_42 rfl ?_
          refine r_goto (pc := 45) 4 dX12_cleared_45 (by decide) ?_
          rw [hor0, cpN_s]
          exact ih (f + 1) _ _ (by omega) (by omega) (by rw [e, if_pos h30])
        · skip
          refine r_iconst (pc := 33) dX12_cleared_33 ?_
          refine r_iload_n (pc := 34) dX12_cleared_34 rfl ?_
          refine r_ishl (pc := 35) dX12_cleared_35 ?_
          rw [hshf]
          refine r_goto (pc := 36) 40 dX12_cleared_36 (by decide) ?_
          refine r_ior (pc := 40) dX12_cleared_40 ?_
          refine r_istore_n (pc := 41) dX12_cleared_41 (by decide) ?_
          refine r_iinc (pc := 42) dX12_cleared_42 rfl ?_
          refine r_goto (pc := 45) 4 dX12_cleared_45 (by decide) ?_
          rw [hor1, cpN_s]
          exact ih (f + 1) _ _ (by omega) (by omega) (by rw [e, if_neg h30])
  refine r_iconst (pc := 0) dX12_cleared_0 ?_
  refine r_istore_n (pc := 1) dX12_cleared_1 (by decide) ?_
  refine r_iconst (pc := 2) dX12_cleared_2 ?_
  refine r_istore_n (pc := 3) dX12_cleared_3 (by decide) ?_
  have key := first n 0 0 0 (by omega) rfl rfl
  rw [cpN_0, uR_same] at key
  exact key
end REF20

