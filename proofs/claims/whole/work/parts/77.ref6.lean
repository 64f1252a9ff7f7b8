/-! the reference: plan, chance -/
def tryC (m c : Nat) : Nat → Nat → (Nat → Int) → Int × (Nat → Int)
  | 0, _, T => (0, T)
  | d + 1, k, T => if wantF (jobsF T (((c / 5 ^ (m - 1 - k) % 5 : Nat)) : Int) (sizeF T)) false = 0 then tryC m c d (k + 1) (goF (jobsF T (((c / 5 ^ (m - 1 - k) % 5 : Nat)) : Int) (sizeF T)) false) else (wantF (jobsF T (((c / 5 ^ (m - 1 - k) % 5 : Nat)) : Int) (sizeF T)) false, goF (jobsF T (((c / 5 ^ (m - 1 - k) % 5 : Nat)) : Int) (sizeF T)) false)
def bestC (m : Nat) (N : Nat → Int) : Nat → Int × Int
  | 0 => (-1, -1)
  | c + 1 => if (tryC m c m 0 N).1 = 0 ∧ (bestC m N c).2 < (tryC m c m 0 N).2 2 then ((c : Int), (tryC m c m 0 N).2 2) else bestC m N c
theorem tryC_in (m c : Nat) : ∀ (d k : Nat) (T : Nat → Int) (Y : Int), FI T Y → FI (tryC m c d k T).2 (Y + d) ∧ hiE T (tryC m c d k T).2 ∧ 0 ≤ (tryC m c d k T).1 ∧ (tryC m c d k T).1 ≤ 126 := by
  intro d
  induction d with
  | zero =>
    intro k T Y h
    refine ⟨?_, hiE.rf T, by show (0 : Int) ≤ 0; omega, by show (0 : Int) ≤ 126; omega⟩
    show FI T (Y + ((0 : Nat) : Int))
    simpa using h
  | succ d ih =>
    intro k T Y h
    have hJ := FI_jobs h (j := ((c / 5 ^ (m - 1 - k) % 5 : Nat) : Int)) (by omega) (sizeF T)
    have hs := (sizeF_le h).1
    have hjs : sizeF (jobsF T ((c / 5 ^ (m - 1 - k) % 5 : Nat) : Int) (sizeF T)) = sizeF T := sz_same (fx_jobs _ _ (by omega) _)
    have hh : hiE T (goF (jobsF T ((c / 5 ^ (m - 1 - k) % 5 : Nat) : Int) (sizeF T)) false) := (jobs_hi _ _ _ hs).tr (go_hi _ _ (by omega))
    have hg := FI_go hJ false
    have hw := wantF_in hJ false
    unfold tryC
    split
    · obtain ⟨a, b, c1, d1⟩ := ih (k + 1) _ (Y + 1) hg
      refine ⟨?_, hh.tr b, c1, d1⟩
      rw [show Y + ((d + 1 : Nat) : Int) = Y + 1 + (d : Int) by omega]; exact a
    · exact ⟨FI_le hg (by omega), hh, hw.1, hw.2⟩
theorem bestC_in {m : Nat} {N : Nat → Int} {Y : Int} (h : FI N Y) : ∀ c : Nat, -1 ≤ (bestC m N c).1 ∧ (bestC m N c).1 < c ∧ -1 ≤ (bestC m N c).2 ∧ (bestC m N c).2 ≤ 9999 := by
  intro c
  induction c with
  | zero => show (-1 : Int) ≤ -1 ∧ (-1 : Int) < 0 ∧ (-1 : Int) ≤ -1 ∧ (-1 : Int) ≤ 9999; omega
  | succ c ih =>
    have ht := (tryC_in m c m 0 N Y h).1.2.2.1
    unfold bestC
    split
    · refine ⟨?_, ?_, ?_, ?_⟩
      · show -1 ≤ (c : Int); omega
      · show (c : Int) < ((c + 1 : Nat) : Int); omega
      · show -1 ≤ (tryC m c m 0 N).2 2; omega
      · show (tryC m c m 0 N).2 2 ≤ 9999; omega
    · omega
section REF6
variable {G : WG} {C : CF} {I : MI} {P : MP} {L : ML} {m : Nat} {Y : Int}
def planM (T : RS) (n i : Int) : Int × RS := if (0 ≤ n ∧ n ≤ 5) ∧ -1 ≤ i then (if (bestC n.toNat T.1 (5 ^ n.toNat)).1 = -1 ∨ i = -1 then (bestC n.toNat T.1 (5 ^ n.toNat)).2 else if i < n then (bestC n.toNat T.1 (5 ^ n.toNat)).1 / 5 ^ (n.toNat - 1 - i.toNat) % 5 else -5, T) else (-10, zB T)
theorem p5 {k : Nat} (h : k ≤ 5) : 1 ≤ 5 ^ k ∧ 5 ^ k ≤ 3125 := ⟨Nat.pow_pos (by decide), Nat.le_trans (Nat.pow_le_pow_right (by decide) h) (by decide)⟩
theorem p5i (k : Nat) : ((5 : Int)) ^ k = ((5 ^ k : Nat) : Int) := by rw [Int.natCast_pow]; rfl
theorem sX12_plan {n i : Int} (hm : RfL G C P m := by assumption) (hF : FI (I (m + 1)) Y := by assumption) (hY : Y ≤ 900000 := by omega) (hn : iR n := by omega) (hi : iR i := by omega) : SX12_plan G [.ref m, .int (zI n), .int (zI i)] C I P L (NI C (QZ m (planM (rdM m I L) n i).1 (planM (rdM m I L) n i).2 P)) := by
  obtain ⟨hBm, hKm, hK1, hK2, hK3, hK4, hK5, hK6, hK7, hK8, hK9, hK10, hK11, hP0, hP1, hP2, hP3, hP6, hP7, hP8, hP9, hP10, hP16, hP17⟩ := id hm
  obtain ⟨hs6, hsz⟩ := sizeF_le hF
  have eN : (uR I (m + 5) (mix33 (I (m + 1)) (I (m + 5)))) (m + 1) = I (m + 1) := uR_n I _ (show m + 1 ≠ m + 5 by omega)
  have eN2 : uR (uR I (m + 5) (mix33 (I (m + 1)) (I (m + 5)))) (m + 1) (I (m + 1)) = uR I (m + 5) (mix33 (I (m + 1)) (I (m + 5))) := by
    have q := uR_same (uR I (m + 5) (mix33 (I (m + 1)) (I (m + 5)))) (m + 1)
    rwa [eN] at q
  generalize hW : mix33 (I (m + 1)) (I (m + 5)) = W at eN eN2
  have hWl : ∀ k, k < 33 → W k = I (m + 1) k := fun k hk => by rw [← hW]; exact mix33_lo _ _ k hk
  obtain ⟨M, hM⟩ : ∃ M, M = n.toNat := ⟨_, rfl⟩
  have hTot : (0 ≤ n ∧ n ≤ 5) → 1 ≤ 5 ^ M ∧ 5 ^ M ≤ 3125 := fun h => p5 (by omega)
  have iRb : ∀ c, -1 ≤ (bestC M (I (m + 1)) c).2 ∧ (bestC M (I (m + 1)) c).2 ≤ 9999 := fun c => (bestC_in (m := M) hF c).2.2
  refine en_I (by decide +kernel) (Nat.le_of_ble_eq_true rfl) ?_
  change Wd _ _ _ _ _ _ _ _ 0 [some _, some _, some _, none, none, none, none, none] [] _ _ _ _
  have outer : ∀ (d c : Nat) (ci b q : Int) (w6 w7 : Option Value), c + d = 5 ^ M → ((0 ≤ n ∧ n ≤ 5) ∧ -1 ≤ i) → ci = (c : Int) → b = (bestC M (I (m + 1)) c).1 → q = (bestC M (I (m + 1)) c).2 → Wd G yX12_plan cX12_plan 8 (some .int) 5 (C.2.1 + 0, C.2.2 + 0) (NI C (QZ m (planM (rdM m I L) n i).1 (planM (rdM m I L) n i).2 P)) 36 [some (.ref m), some (.int (zI n)), some (.int (zI i)), some (.int (zI b)), some (.int (zI q)), some (.int (zI ci)), w6, w7] [] C (uR (uR I (m + 5) W) (m + 1) (I (m + 1))) P L := by
    intro d
    induction d using Nat.strongRecOn with
    | _ d ih =>
      intro c ci b q w6 w7 hd hz hci hb hq
      have htot := hTot hz.1
      have hbi := bestC_in (m := M) hF c
      rw [← hb, ← hq] at hbi
      by_cases hlt : c < 5 ^ M
      · have htin := tryC_in M c M 0 (I (m + 1)) Y hF
        have hst : bestC M (I (m + 1)) (c + 1) = if (tryC M c M 0 (I (m + 1))).1 = 0 ∧ q < (tryC M c M 0 (I (m + 1))).2 2 then ((c : Int), (tryC M c M 0 (I (m + 1))).2 2) else bestC M (I (m + 1)) c := by rw [bestC, ← hq]
        generalize hTR : tryC M c M 0 (I (m + 1)) = TR at htin hst
        have g2 := htin.1.2.2.1
        have join : ∀ (w7 : Option Value), Wd G yX12_plan cX12_plan 8 (some .int) 5 (C.2.1 + 0, C.2.2 + 0) (NI C (QZ m (planM (rdM m I L) n i).1 (planM (rdM m I L) n i).2 P)) 98 [some (.ref m), some (.int (zI n)), some (.int (zI i)), some (.int (zI b)), some (.int (zI q)), some (.int (zI ci)), some (.int (zI TR.1)), w7] [] C (uR (uR I (m + 5) W) (m + 1) TR.2) P L := by
          intro w7
          refine r_iload (pc := 98) dX12_plan_98 rfl ?_
          refine r_if_ne (pc := 100) 118 dX12_plan_100 (by decide) (by omega) (fun h100 => ?_) (fun h100 => ?_)
          · skip
            refine r_iconst (pc := 118) dX12_plan_118 ?_
            refine r_istore (pc := 119) dX12_plan_119 (by decide) ?_
            refine r_iload (pc := 121) dX12_plan_121 rfl ?_
            refine r_if_eq (pc := 123) 131 dX12_plan_123 (by decide) (by omega) (fun h123 => ?_) (fun h123 => ?_)
            · skip
              refine r_iload_n (pc := 131) dX12_plan_131 rfl ?_
              refine r_istore_n (pc := 132) dX12_plan_132 (by decide) ?_
              refine r_iload (pc := 133) dX12_plan_133 rfl ?_
              refine r_if_eq (pc := 135) 147 dX12_plan_135 (by decide) (by omega) (fun h135 => ?_) (fun h135 => ?_)
              · skip
                refine r_iload (pc := 147) dX12_plan_147 rfl ?_
                refine r_istore (pc := 149) dX12_plan_149 (by decide) ?_
                refine r_aload_n (pc := 151) dX12_plan_151 rfl ?_
                refine i_V0vx (pc := 152) okX12_back inX12_back selX12_back q1235 dX12_plan_152 (by assumption) rfl (by decide) (Nat.le_of_ble_eq_true rfl) (sX12_back) ?_
                try simp only [u2_I, uR_uR, uR_app, eq_self, Nat.reduceEqDiff, Nat.add_eq_left, Nat.left_eq_add, ↓reduceIte]
                rw [mix33_back hWl htin.2.1]
                refine r_iinc (pc := 155) dX12_plan_155 rfl ?_
                refine r_goto (pc := 158) 36 dX12_plan_158 (by decide) ?_
                refine ih (d - 1) (by omega) (c + 1) _ _ _ _ _ (by omega) hz (by omega) ?_ ?_
                · rw [hst, if_neg (fun q => by omega)]; exact hb
                · rw [hst, if_neg (fun q => by omega)]; exact hq
              · exact absurd h135 (by decide)
            · exact absurd h123 (by decide)
          · skip
            refine r_aload_n (pc := 103) dX12_plan_103 rfl ?_
            refine r_getA (pc := 104) dX12_plan_104 frX12_7 (by assumption) (by assumption) ?_
            refine r_iconst (pc := 107) dX12_plan_107 ?_
            refine r_iald (j := 2) (pc := 108) dX12_plan_108 (by assumption) rfl (by omega) (by omega) ?_
            try simp only [u2_I, uR_uR, uR_app, eq_self, Nat.reduceEqDiff, Nat.add_eq_left, Nat.left_eq_add, ↓reduceIte]
            refine r_iload (pc := 109) dX12_plan_109 rfl ?_
            refine r_icmp_le (pc := 111) 118 dX12_plan_111 (by decide) (by omega) (by omega) (fun h111 => ?_) (fun h111 => ?_)
            · skip
              refine r_iconst (pc := 118) dX12_plan_118 ?_
              refine r_istore (pc := 119) dX12_plan_119 (by decide) ?_
              refine r_iload (pc := 121) dX12_plan_121 rfl ?_
              refine r_if_eq (pc := 123) 131 dX12_plan_123 (by decide) (by omega) (fun h123 => ?_) (fun h123 => ?_)
              · skip
                refine r_iload_n (pc := 131) dX12_plan_131 rfl ?_
                refine r_istore_n (pc := 132) dX12_plan_132 (by decide) ?_
                refine r_iload (pc := 133) dX12_plan_133 rfl ?_
                refine r_if_eq (pc := 135) 147 dX12_plan_135 (by decide) (by omega) (fun h135 => ?_) (fun h135 => ?_)
                · skip
                  refine r_iload (pc := 147) dX12_plan_147 rfl ?_
                  refine r_istore (pc := 149) dX12_plan_149 (by decide) ?_
                  refine r_aload_n (pc := 151) dX12_plan_151 rfl ?_
                  refine i_V0vx (pc := 152) okX12_back inX12_back selX12_back q1235 dX12_plan_152 (by assumption) rfl (by decide) (Nat.le_of_ble_eq_true rfl) (sX12_back) ?_
                  try simp only [u2_I, uR_uR, uR_app, eq_self, Nat.reduceEqDiff, Nat.add_eq_left, Nat.left_eq_add, ↓reduceIte]
                  rw [mix33_back hWl htin.2.1]
                  refine r_iinc (pc := 155) dX12_plan_155 rfl ?_
                  refine r_goto (pc := 158) 36 dX12_plan_158 (by decide) ?_
                  refine ih (d - 1) (by omega) (c + 1) _ _ _ _ _ (by omega) hz (by omega) ?_ ?_
                  · rw [hst, if_neg (fun q => by omega)]; exact hb
                  · rw [hst, if_neg (fun q => by omega)]; exact hq
                · exact absurd h135 (by decide)
              · exact absurd h123 (by decide)
            · skip
              refine r_iconst (pc := 114) dX12_plan_114 ?_
              refine r_goto (pc := 115) 119 dX12_plan_115 (by decide) ?_
              refine r_istore (pc := 119) dX12_plan_119 (by decide) ?_
              refine r_iload (pc := 121) dX12_plan_121 rfl ?_
              refine r_if_eq (pc := 123) 131 dX12_plan_123 (by decide) (by omega) (fun h123 => ?_) (fun h123 => ?_)
              · exact absurd h123 (by decide)
              · skip
                refine r_iload (pc := 126) dX12_plan_126 rfl ?_
                refine r_goto (pc := 128) 132 dX12_plan_128 (by decide) ?_
                refine r_istore_n (pc := 132) dX12_plan_132 (by decide) ?_
                refine r_iload (pc := 133) dX12_plan_133 rfl ?_
                refine r_if_eq (pc := 135) 147 dX12_plan_135 (by decide) (by omega) (fun h135 => ?_) (fun h135 => ?_)
                · exact absurd h135 (by decide)
                · skip
                  refine r_aload_n (pc := 138) dX12_plan_138 rfl ?_
                  refine r_getA (pc := 139) dX12_plan_139 frX12_7 (by assumption) (by assumption) ?_
                  refine r_iconst (pc := 142) dX12_plan_142 ?_
                  refine r_iald (j := 2) (pc := 143) dX12_plan_143 (by assumption) rfl (by omega) (by omega) ?_
                  try simp only [u2_I, uR_uR, uR_app, eq_self, Nat.reduceEqDiff, Nat.add_eq_left, Nat.left_eq_add, ↓reduceIte]
                  refine r_goto (pc := 144) 149 dX12_plan_144 (by decide) ?_
                  refine r_istore (pc := 149) dX12_plan_149 (by decide) ?_
                  refine r_aload_n (pc := 151) dX12_plan_151 rfl ?_
                  refine i_V0vx (pc := 152) okX12_back inX12_back selX12_back q1235 dX12_plan_152 (by assumption) rfl (by decide) (Nat.le_of_ble_eq_true rfl) (sX12_back) ?_
                  try simp only [u2_I, uR_uR, uR_app, eq_self, Nat.reduceEqDiff, Nat.add_eq_left, Nat.left_eq_add, ↓reduceIte]
                  rw [mix33_back hWl htin.2.1]
                  refine r_iinc (pc := 155) dX12_plan_155 rfl ?_
                  refine r_goto (pc := 158) 36 dX12_plan_158 (by decide) ?_
                  refine ih (d - 1) (by omega) (c + 1) _ _ _ _ _ (by omega) hz (by omega) ?_ ?_
                  · rw [hst, if_pos ⟨by omega, by omega⟩]; exact hci
                  · rw [hst, if_pos ⟨by omega, by omega⟩]
        have inner : ∀ (e k : Nat) (ki : Int) (T : Nat → Int), k + e = M → ki = (k : Int) → FI T (Y + k) → hiE (I (m + 1)) T → tryC M c e k T = TR → Wd G yX12_plan cX12_plan 8 (some .int) 5 (C.2.1 + 0, C.2.2 + 0) (NI C (QZ m (planM (rdM m I L) n i).1 (planM (rdM m I L) n i).2 P)) 52 [some (.ref m), some (.int (zI n)), some (.int (zI i)), some (.int (zI b)), some (.int (zI q)), some (.int (zI ci)), some (.int (zI 0)), some (.int (zI ki))] [] C (uR (uR I (m + 5) W) (m + 1) T) P L := by
          intro e
          induction e with
          | zero =>
            intro k ki T hk hki hFT hhT hTT
            have e1 : TR = (0, T) := by rw [← hTT]; rfl
            have e11 : TR.1 = 0 := by rw [e1]
            have e12 : TR.2 = T := by rw [e1]
            refine r_iload (pc := 52) dX12_plan_52 rfl ?_
            refine r_iload_n (pc := 54) dX12_plan_54 rfl ?_
            refine r_icmp_ge (pc := 55) 98 dX12_plan_55 (by decide) (by omega) (by omega) (fun h55 => ?_) (fun h55 => ?_)
            · skip
              rw [← e12]
              rw [← e11]
              exact join _
            · exfalso; omega
          | succ e ihe =>
            intro k ki T hk hki hFT hhT hTT
            have hj5 : c / 5 ^ (M - 1 - k) % 5 < 5 := Nat.mod_lt _ (by decide)
            have hpp := p5 (k := M - 1 - k) (by omega)
            have hdiv : (ci / 5 ^ (M - 1 - k)) % 5 = ((c / 5 ^ (M - 1 - k) % 5 : Nat) : Int) := by rw [hci, p5i]; omega
            have hdiv0 : 0 ≤ ci / 5 ^ (M - 1 - k) ∧ ci / 5 ^ (M - 1 - k) ≤ 3125 := by
              rw [hci, p5i]
              have : c / 5 ^ (M - 1 - k) ≤ c := Nat.div_le_self _ _
              constructor
              · have h0 : (0 : Int) ≤ ((c / 5 ^ (M - 1 - k) : Nat) : Int) := Int.natCast_nonneg _
                omega
              · omega
            have hpi : 1 ≤ ((5 : Int)) ^ (M - 1 - k) ∧ ((5 : Int)) ^ (M - 1 - k) ≤ 3125 := by rw [p5i]; omega
            have hJF := FI_jobs hFT (j := ((c / 5 ^ (M - 1 - k) % 5 : Nat) : Int)) (by omega) (sizeF T)
            have hTs := (sizeF_le hFT).1
            have hjs : sizeF (jobsF T ((c / 5 ^ (M - 1 - k) % 5 : Nat) : Int) (sizeF T)) = sizeF T := sz_same (fx_jobs _ _ (by omega) _)
            have hwi := wantF_in hJF false
            have hgo := FI_go hJF false
            have hgh : hiE (I (m + 1)) (goF (jobsF T ((c / 5 ^ (M - 1 - k) % 5 : Nat) : Int) (sizeF T)) false) := hhT.tr ((jobs_hi _ _ _ hTs).tr (go_hi _ _ (by omega)))
            rw [tryC] at hTT
            generalize hJ : jobsF T ((c / 5 ^ (M - 1 - k) % 5 : Nat) : Int) (sizeF T) = J at hJF hjs hwi hgo hgh hTT
            refine r_iload (pc := 52) dX12_plan_52 rfl ?_
            refine r_iload_n (pc := 54) dX12_plan_54 rfl ?_
            refine r_icmp_ge (pc := 55) 98 dX12_plan_55 (by decide) (by omega) (by omega) (fun h55 => ?_) (fun h55 => ?_)
            · exfalso; omega
            · skip
              refine r_iload (pc := 58) dX12_plan_58 rfl ?_
              refine r_if_ne (pc := 60) 98 dX12_plan_60 (by decide) (by omega) (fun h60 => ?_) (fun h60 => ?_)
              · exact absurd h60 (by decide)
              · skip
                refine r_aload_n (pc := 63) dX12_plan_63 rfl ?_
                refine r_iload (pc := 64) dX12_plan_64 rfl ?_
                refine r_iconst (pc := 66) dX12_plan_66 ?_
                refine r_iload_n (pc := 67) dX12_plan_67 rfl ?_
                refine r_iconst (pc := 68) dX12_plan_68 ?_
                refine r_isub (pc := 69) dX12_plan_69 ?_
                refine r_iload (pc := 70) dX12_plan_70 rfl ?_
                refine r_isub (pc := 72) dX12_plan_72 ?_
                refine i_S2ix (pc := 73) okX12_power staX12_power q1228 dX12_plan_73 (by decide) (Nat.le_of_ble_eq_true rfl) (sX12_power (n := M - 1 - k)) ?_
                try simp only [u2_I, uR_uR, uR_app, eq_self, Nat.reduceEqDiff, Nat.add_eq_left, Nat.left_eq_add, ↓reduceIte]
                refine r_idiv (pc := 76) dX12_plan_76 (by omega) (by omega) (by omega) (by omega) ?_
                refine r_iconst (pc := 77) dX12_plan_77 ?_
                refine r_irem (pc := 78) dX12_plan_78 (by omega) (by omega) (by omega) (by omega) ?_
                rw [hdiv]
                refine i_V1vx (pc := 79) okX12_allDo inX12_allDo selX12_allDo q1231 dX12_plan_79 (by assumption) rfl (by decide) (Nat.le_of_ble_eq_true rfl) (sX12_allDo (Y := Y + k)) ?_
                try simp only [u2_I, uR_uR, uR_app, eq_self, Nat.reduceEqDiff, Nat.add_eq_left, Nat.left_eq_add, ↓reduceIte]
                rw [hJ]
                refine r_iload (pc := 82) dX12_plan_82 rfl ?_
                refine r_aload_n (pc := 84) dX12_plan_84 rfl ?_
                refine r_iconst (pc := 85) dX12_plan_85 ?_
                refine i_V1ix (pc := 86) okX12_goYear inX12_goYear selX12_goYear q1149 dX12_plan_86 (by assumption) rfl (by decide) (Nat.le_of_ble_eq_true rfl) (sX12_goYear (bad := false) (Y := Y + k)) ?_
                try simp only [u2_I, uR_uR, uR_app, eq_self, Nat.reduceEqDiff, Nat.add_eq_left, Nat.left_eq_add, ↓reduceIte]
                refine r_iadd (pc := 89) dX12_plan_89 ?_
                refine r_istore (pc := 90) dX12_plan_90 (by decide) ?_
                refine r_iinc (pc := 92) dX12_plan_92 rfl ?_
                refine r_goto (pc := 95) 52 dX12_plan_95 (by decide) ?_
                by_cases hw0 : wantF J false = 0
                · rw [if_pos hw0] at hTT
                  rw [hw0]
                  refine ihe (k + 1) _ _ (by omega) (by omega) ?_ hgh hTT
                  rw [show Y + ((k + 1 : Nat) : Int) = Y + k + 1 by omega]; exact hgo
                · rw [if_neg hw0] at hTT
                  have e11 : TR.1 = 0 + wantF J false := by rw [← hTT]; show wantF J false = _; omega
                  have e12 : TR.2 = goF J false := by rw [← hTT]
                  rw [← e11, ← e12]
                  have hne : ¬ TR.1 = 0 := by omega
                  have hri : iR TR.1 := by omega
                  refine r_iload (pc := 52) dX12_plan_52 rfl ?_
                  refine r_iload_n (pc := 54) dX12_plan_54 rfl ?_
                  refine r_icmp_ge (pc := 55) 98 dX12_plan_55 (by decide) (by omega) (by omega) (fun h55 => ?_) (fun h55 => ?_)
                  · exact join _
                  · refine r_iload (pc := 58) dX12_plan_58 rfl ?_
                    refine r_if_ne (pc := 60) 98 dX12_plan_60 (by decide) hri (fun h60 => ?_) (fun h60 => ?_)
                    · exact join _
                    · exact absurd h60 hne
        refine r_iload (pc := 36) dX12_plan_36 rfl ?_
        refine r_iconst (pc := 38) dX12_plan_38 ?_
        refine r_iload_n (pc := 39) dX12_plan_39 rfl ?_
        refine i_S2ix (pc := 40) okX12_power staX12_power q1228 dX12_plan_40 (by decide) (Nat.le_of_ble_eq_true rfl) (sX12_power (n := M)) ?_
        try simp only [u2_I, uR_uR, uR_app, eq_self, Nat.reduceEqDiff, Nat.add_eq_left, Nat.left_eq_add, ↓reduceIte]
        rw [p5i]
        refine r_icmp_ge (pc := 43) 161 dX12_plan_43 (by decide) (by omega) (by omega) (fun h43 => ?_) (fun h43 => ?_)
        · exfalso; omega
        · skip
          refine r_iconst (pc := 46) dX12_plan_46 ?_
          refine r_istore (pc := 47) dX12_plan_47 (by decide) ?_
          refine r_iconst (pc := 49) dX12_plan_49 ?_
          refine r_istore (pc := 50) dX12_plan_50 (by decide) ?_
          exact inner M 0 _ _ (by omega) rfl (by simpa using hF) (hiE.rf _) hTR
      · have hce : c = 5 ^ M := by omega
        rw [hce, hM] at hb hq
        refine r_iload (pc := 36) dX12_plan_36 rfl ?_
        refine r_iconst (pc := 38) dX12_plan_38 ?_
        refine r_iload_n (pc := 39) dX12_plan_39 rfl ?_
        refine i_S2ix (pc := 40) okX12_power staX12_power q1228 dX12_plan_40 (by decide) (Nat.le_of_ble_eq_true rfl) (sX12_power (n := M)) ?_
        try simp only [u2_I, uR_uR, uR_app, eq_self, Nat.reduceEqDiff, Nat.add_eq_left, Nat.left_eq_add, ↓reduceIte]
        rw [p5i]
        refine r_icmp_ge (pc := 43) 161 dX12_plan_43 (by decide) (by omega) (by omega) (fun h43 => ?_) (fun h43 => ?_)
        · skip
          refine r_iload_n (pc := 161) dX12_plan_161 rfl ?_
          refine r_iconst (pc := 162) dX12_plan_162 ?_
          refine r_icmp_eq (pc := 163) 171 dX12_plan_163 (by decide) (by omega) (by omega) (fun h163 => ?_) (fun h163 => ?_)
          · skip
            refine r_iload (pc := 171) dX12_plan_171 rfl ?_
            refine t_iret (pc := 173) dX12_plan_173 rfl rfl ?_
            unfold planM
            rw [if_pos hz]
            refine ⟨?_, rdM_w m I L _, rfl⟩
            show q = (if (bestC n.toNat (I (m + 1)) (5 ^ n.toNat)).1 = -1 ∨ i = -1 then (bestC n.toNat (I (m + 1)) (5 ^ n.toNat)).2 else _)
            rw [if_pos (by omega)]; exact hq
          · skip
            refine r_iload_n (pc := 166) dX12_plan_166 rfl ?_
            refine r_iconst (pc := 167) dX12_plan_167 ?_
            refine r_icmp_ne (pc := 168) 174 dX12_plan_168 (by decide) (by omega) (by omega) (fun h168 => ?_) (fun h168 => ?_)
            · skip
              refine r_iload_n (pc := 174) dX12_plan_174 rfl ?_
              refine r_iload_n (pc := 175) dX12_plan_175 rfl ?_
              refine r_icmp_ge (pc := 176) 195 dX12_plan_176 (by decide) (by omega) (by omega) (fun h176 => ?_) (fun h176 => ?_)
              · skip
                refine r_bipush (pc := 195) dX12_plan_195 (by decide) ?_
                refine t_iret (pc := 197) dX12_plan_197 rfl rfl ?_
                unfold planM
                rw [if_pos hz]
                refine ⟨?_, rdM_w m I L _, rfl⟩
                show _ = (if (bestC n.toNat (I (m + 1)) (5 ^ n.toNat)).1 = -1 ∨ i = -1 then (bestC n.toNat (I (m + 1)) (5 ^ n.toNat)).2 else if i < n then (bestC n.toNat (I (m + 1)) (5 ^ n.toNat)).1 / 5 ^ (n.toNat - 1 - i.toNat) % 5 else -5)
                rw [if_neg (by omega), if_neg (by omega)]
              · skip
                have hpp := p5 (k := M - 1 - i.toNat) (by omega)
                have hpi : 1 ≤ ((5 : Int)) ^ (M - 1 - i.toNat) ∧ ((5 : Int)) ^ (M - 1 - i.toNat) ≤ 3125 := by rw [p5i]; omega
                have hdd : 0 ≤ b / 5 ^ (M - 1 - i.toNat) ∧ b / 5 ^ (M - 1 - i.toNat) ≤ 3125 := by
                  obtain ⟨bn, hbn⟩ : ∃ bn : Nat, b = (bn : Int) := ⟨b.toNat, by omega⟩
                  rw [hbn, p5i]
                  have : bn / 5 ^ (M - 1 - i.toNat) ≤ bn := Nat.div_le_self _ _
                  have h0 : (0 : Int) ≤ ((bn / 5 ^ (M - 1 - i.toNat) : Nat) : Int) := Int.natCast_nonneg _
                  omega
                refine r_iload_n (pc := 179) dX12_plan_179 rfl ?_
                refine r_iconst (pc := 180) dX12_plan_180 ?_
                refine r_iload_n (pc := 181) dX12_plan_181 rfl ?_
                refine r_iconst (pc := 182) dX12_plan_182 ?_
                refine r_isub (pc := 183) dX12_plan_183 ?_
                refine r_iload_n (pc := 184) dX12_plan_184 rfl ?_
                refine r_isub (pc := 185) dX12_plan_185 ?_
                refine i_S2ix (pc := 186) okX12_power staX12_power q1228 dX12_plan_186 (by decide) (Nat.le_of_ble_eq_true rfl) (sX12_power (n := M - 1 - i.toNat)) ?_
                try simp only [u2_I, uR_uR, uR_app, eq_self, Nat.reduceEqDiff, Nat.add_eq_left, Nat.left_eq_add, ↓reduceIte]
                refine r_idiv (pc := 189) dX12_plan_189 (by omega) (by omega) (by omega) (by omega) ?_
                refine r_iconst (pc := 190) dX12_plan_190 ?_
                refine r_irem (pc := 191) dX12_plan_191 (by omega) (by omega) (by omega) (by omega) ?_
                refine r_goto (pc := 192) 197 dX12_plan_192 (by decide) ?_
                refine t_iret (pc := 197) dX12_plan_197 rfl rfl ?_
                unfold planM
                rw [if_pos hz]
                refine ⟨?_, rdM_w m I L _, rfl⟩
                show _ = (if (bestC n.toNat (I (m + 1)) (5 ^ n.toNat)).1 = -1 ∨ i = -1 then (bestC n.toNat (I (m + 1)) (5 ^ n.toNat)).2 else if i < n then (bestC n.toNat (I (m + 1)) (5 ^ n.toNat)).1 / 5 ^ (n.toNat - 1 - i.toNat) % 5 else -5)
                rw [if_neg (by omega), if_pos (by omega), ← hb, hM]
            · skip
              refine r_iload (pc := 171) dX12_plan_171 rfl ?_
              refine t_iret (pc := 173) dX12_plan_173 rfl rfl ?_
              unfold planM
              rw [if_pos hz]
              refine ⟨?_, rdM_w m I L _, rfl⟩
              show q = (if (bestC n.toNat (I (m + 1)) (5 ^ n.toNat)).1 = -1 ∨ i = -1 then (bestC n.toNat (I (m + 1)) (5 ^ n.toNat)).2 else _)
              rw [if_pos (by omega)]; exact hq
        · exfalso; omega
  refine r_iload_n (pc := 0) dX12_plan_0 rfl ?_
  refine r_i2l (pc := 1) dX12_plan_1 (by first | omega | (split <;> decide)) ?_
  refine r_lconst (v := 0) (pc := 2) dX12_plan_2 (by decide) ?_
  refine r_ldc2_w (v := (5 : Int)) (pc := 3) dX12_plan_3 kcX12_142 ?_
  refine i_S3ix (pc := 6) okX12_in staX12_in q1098 dX12_plan_6 (by decide) (Nat.le_of_ble_eq_true rfl) (sX12_in) ?_
  refine r_if_eq (pc := 9) 17 dX12_plan_9 (by decide) (by first | omega | (split <;> decide)) (fun h9 => ?_) (fun h9 => ?_)
  · skip
    refine r_aload_n (pc := 17) dX12_plan_17 rfl ?_
    refine r_bipush (pc := 18) dX12_plan_18 (by decide) ?_
    refine i_V1ix (pc := 20) okX12_bad inX12_bad selX12_bad q1101 dX12_plan_20 (by assumption) rfl (by decide) (Nat.le_of_ble_eq_true rfl) (sX12_bad) ?_
    refine t_iret (pc := 23) dX12_plan_23 rfl rfl ?_
    unfold planM
    rw [if_neg (fun hz => by first | exact (wf h9) hz.1 | omega)]
    exact QZ_bad
  · skip
    refine r_iload_n (pc := 12) dX12_plan_12 rfl ?_
    refine r_iconst (pc := 13) dX12_plan_13 ?_
    refine r_icmp_ge (pc := 14) 24 dX12_plan_14 (by decide) (by first | omega | (split <;> decide)) (by first | omega | (split <;> decide)) (fun h14 => ?_) (fun h14 => ?_)
    · skip
      have h1 := wt h9
      refine r_iconst (pc := 24) dX12_plan_24 ?_
      refine r_istore_n (pc := 25) dX12_plan_25 (by decide) ?_
      refine r_iconst (pc := 26) dX12_plan_26 ?_
      refine r_istore (pc := 27) dX12_plan_27 (by decide) ?_
      refine r_aload_n (pc := 29) dX12_plan_29 rfl ?_
      refine i_V0vx (pc := 30) okX12_start inX12_start selX12_start q1224 dX12_plan_30 (by assumption) rfl (by decide) (Nat.le_of_ble_eq_true rfl) (sX12_start) ?_
      try simp only [u2_I, uR_uR, uR_app, eq_self, Nat.reduceEqDiff, Nat.add_eq_left, Nat.left_eq_add, ↓reduceIte]
      rw [hW]
      refine r_iconst (pc := 33) dX12_plan_33 ?_
      refine r_istore (pc := 34) dX12_plan_34 (by decide) ?_
      rw [← eN2]
      exact outer (5 ^ M) 0 _ _ _ _ _ (by omega) ⟨h1, by omega⟩ rfl rfl rfl
    · skip
      refine r_aload_n (pc := 17) dX12_plan_17 rfl ?_
      refine r_bipush (pc := 18) dX12_plan_18 (by decide) ?_
      refine i_V1ix (pc := 20) okX12_bad inX12_bad selX12_bad q1101 dX12_plan_20 (by assumption) rfl (by decide) (Nat.le_of_ble_eq_true rfl) (sX12_bad) ?_
      refine t_iret (pc := 23) dX12_plan_23 rfl rfl ?_
      unfold planM
      rw [if_neg (fun hz => by first | exact (wf h9) hz.1 | omega)]
      exact QZ_bad
/-! the fraction -/
def gI (a b : Int) : Int := (Nat.gcd a.toNat b.toNat : Int)
theorem gI_st {a b : Int} (ha : 0 ≤ a) (hb : 0 < b) : gI a b = gI b (a % b) := by
  unfold gI
  obtain ⟨x, hx⟩ : ∃ x : Nat, a = (x : Int) := ⟨a.toNat, by omega⟩
  obtain ⟨y, hy⟩ : ∃ y : Nat, b = (y : Int) := ⟨b.toNat, by omega⟩
  subst hx; subst hy
  have e : ((x : Int) % (y : Int)).toNat = x % y := by omega
  rw [e, Int.toNat_natCast, Int.toNat_natCast]
  congr 1
  rw [Nat.gcd_comm x y, Nat.gcd_rec y x, Nat.gcd_comm]
theorem gI_0 {a : Int} (ha : 0 ≤ a) : gI a 0 = a := by
  unfold gI
  rw [show (0 : Int).toNat = 0 from rfl, Nat.gcd_zero_right]; omega
theorem gcdR_gI : ∀ (k d : Nat) (a b : Int), 0 ≤ a → 0 ≤ b → b < 2 ^ k → 2 * k + 1 ≤ d → gcdR d a b = gI a b := by
  intro k
  induction k with
  | zero =>
    intro d a b ha hb hk hd
    have h0 : b = 0 := by
      have : (2 : Int) ^ 0 = 1 := rfl
      omega
    obtain ⟨d', rfl⟩ : ∃ d', d = d' + 1 := ⟨d - 1, by omega⟩
    rw [h0, gI_0 ha, gcdR, if_pos rfl]
  | succ k ih =>
    intro d a b ha hb hk hd
    obtain ⟨d', rfl⟩ : ∃ d', d = d' + 1 := ⟨d - 1, by omega⟩
    obtain ⟨d2, rfl⟩ : ∃ d2, d' = d2 + 1 := ⟨d' - 1, by omega⟩
    rw [gcdR]
    by_cases h0 : b = 0
    · rw [if_pos h0, h0, gI_0 ha]
    · rw [if_neg h0, gI_st ha (by omega)]
      have r0 := Int.emod_nonneg a h0
      have r1 := Int.emod_lt_of_pos a (show 0 < b by omega)
      rw [gcdR]
      generalize a % b = r at r0 r1
      by_cases hr : r = 0
      · rw [if_pos hr, hr, gI_0 hb]
      · rw [if_neg hr, gI_st hb (by omega)]
        have q0 := Int.emod_nonneg b hr
        have q1 := Int.emod_lt_of_pos b (show 0 < r by omega)
        refine ih d2 r (b % r) r0 q0 ?_ (by omega)
        rw [Int.pow_succ] at hk
        by_cases hh : r * 2 ≤ b
        · omega
        · have e : b % r = b - r := by
            rw [Int.emod_eq_iff (by omega)]
            refine ⟨by omega, by omega, ⟨-1, by omega⟩⟩
          omega
theorem sX12_tell {a b : Int} (hm : RfL G C P m := by assumption) (ha : 0 ≤ a ∧ a ≤ 1000000000 := by omega) (hb : 0 < b ∧ b ≤ 1000000000 := by omega) : SX12_tell G [.ref m, .long (zL a), .long (zL b)] C I P L (NV C (XV I P (u2 (u2 L m 4 (a / gI a b)) m 5 (b / gI a b)))) := by
  obtain ⟨hBm, hKm, hK1, hK2, hK3, hK4, hK5, hK6, hK7, hK8, hK9, hK10, hK11, hP0, hP1, hP2, hP3, hP6, hP7, hP8, hP9, hP10, hP16, hP17⟩ := id hm
  have hgp : 0 < gI a b := by
    unfold gI
    have : 0 < Nat.gcd a.toNat b.toNat := Nat.gcd_pos_of_pos_right _ (by omega)
    omega
  refine en_V (by decide +kernel) (Nat.le_of_ble_eq_true rfl) ?_
  change Wd _ _ _ _ _ _ _ _ 0 [some _, some _, none, some _, none, none, none, none, none, none, none] [] _ _ _ _
  have loop : ∀ (d : Nat) (x y : Int) (w : Option Value), y.toNat ≤ d → 0 < x ∨ 0 < y → 0 ≤ x ∧ x ≤ 1000000000 → 0 ≤ y ∧ y ≤ 1000000000 → gI x y = gI a b → Wd G yX12_tell cX12_tell 11 none 0 (C.2.1 + 0, C.2.2 + 0) (NV C (XV I P (u2 (u2 L m 4 (a / gI a b)) m 5 (b / gI a b)))) 6 [some (.ref m), some (.long (zL a)), none, some (.long (zL b)), none, some (.long (zL x)), none, some (.long (zL y)), none, w, none] [] C I P L := by
    intro d
    induction d with
    | zero =>
      intro x y w hd hxy hx hy hg
      have hy0 : y = 0 := by omega
      subst hy0
      rw [gI_0 hx.1] at hg
      rw [← hg]
      refine r_lload (pc := 6) dX12_tell_6 rfl ?_
      refine r_lconst (v := 0) (pc := 8) dX12_tell_8 (by decide) ?_
      refine r_lcmp_eq (pc := 9) 31 dX12_tell_9 dX12_tell_10 (by decide) (by omega) (by omega) (fun h9 => ?_) (fun h9 => ?_)
      · skip
        refine r_aload_n (pc := 31) dX12_tell_31 rfl ?_
        refine r_lload_n (pc := 32) dX12_tell_32 rfl ?_
        refine r_lload (pc := 33) dX12_tell_33 rfl ?_
        refine r_ldiv (pc := 35) dX12_tell_35 (by omega) (by omega) (by omega) (by omega) ?_
        refine r_putL (pc := 36) dX12_tell_36 fwX12_161 (by assumption) (by omega) ?_
        refine r_aload_n (pc := 39) dX12_tell_39 rfl ?_
        refine r_lload_n (pc := 40) dX12_tell_40 rfl ?_
        refine r_lload (pc := 41) dX12_tell_41 rfl ?_
        refine r_ldiv (pc := 43) dX12_tell_43 (by omega) (by omega) (by omega) (by omega) ?_
        refine r_putL (pc := 44) dX12_tell_44 fwX12_23 (by assumption) (by omega) ?_
        refine t_vret (pc := 47) dX12_tell_47 rfl ?_
        exact ⟨rfl, rfl, rfl⟩
      · exact absurd rfl h9
    | succ d ih =>
      intro x y w hd hxy hx hy hg
      by_cases hy0 : y = 0
      · subst hy0
        rw [gI_0 hx.1] at hg
        rw [← hg]
        refine r_lload (pc := 6) dX12_tell_6 rfl ?_
        refine r_lconst (v := 0) (pc := 8) dX12_tell_8 (by decide) ?_
        refine r_lcmp_eq (pc := 9) 31 dX12_tell_9 dX12_tell_10 (by decide) (by omega) (by omega) (fun h9 => ?_) (fun h9 => ?_)
        · skip
          refine r_aload_n (pc := 31) dX12_tell_31 rfl ?_
          refine r_lload_n (pc := 32) dX12_tell_32 rfl ?_
          refine r_lload (pc := 33) dX12_tell_33 rfl ?_
          refine r_ldiv (pc := 35) dX12_tell_35 (by omega) (by omega) (by omega) (by omega) ?_
          refine r_putL (pc := 36) dX12_tell_36 fwX12_161 (by assumption) (by omega) ?_
          refine r_aload_n (pc := 39) dX12_tell_39 rfl ?_
          refine r_lload_n (pc := 40) dX12_tell_40 rfl ?_
          refine r_lload (pc := 41) dX12_tell_41 rfl ?_
          refine r_ldiv (pc := 43) dX12_tell_43 (by omega) (by omega) (by omega) (by omega) ?_
          refine r_putL (pc := 44) dX12_tell_44 fwX12_23 (by assumption) (by omega) ?_
          refine t_vret (pc := 47) dX12_tell_47 rfl ?_
          exact ⟨rfl, rfl, rfl⟩
        · exact absurd rfl h9
      · have r0 := Int.emod_nonneg x hy0
        have r1 := Int.emod_lt_of_pos x (show 0 < y by omega)
        refine r_lload (pc := 6) dX12_tell_6 rfl ?_
        refine r_lconst (v := 0) (pc := 8) dX12_tell_8 (by decide) ?_
        refine r_lcmp_eq (pc := 9) 31 dX12_tell_9 dX12_tell_10 (by decide) (by omega) (by omega) (fun h9 => ?_) (fun h9 => ?_)
        · exact absurd h9 hy0
        · skip
          refine r_lload (pc := 13) dX12_tell_13 rfl ?_
          refine r_lload (pc := 15) dX12_tell_15 rfl ?_
          refine r_lrem (pc := 17) dX12_tell_17 (by omega) (by omega) (by omega) (by omega) ?_
          refine r_lstore (pc := 18) dX12_tell_18 (by decide) ?_
          refine r_lload (pc := 20) dX12_tell_20 rfl ?_
          refine r_lstore (pc := 22) dX12_tell_22 (by decide) ?_
          refine r_lload (pc := 24) dX12_tell_24 rfl ?_
          refine r_lstore (pc := 26) dX12_tell_26 (by decide) ?_
          refine r_goto (pc := 28) 6 dX12_tell_28 (by decide) ?_
          exact ih y (x % y) _ (by omega) (by omega) (by omega) (by omega) (by rw [← hg, ← gI_st hx.1 (by omega)])
  refine r_lload_n (pc := 0) dX12_tell_0 rfl ?_
  refine r_lstore (pc := 1) dX12_tell_1 (by decide) ?_
  refine r_lload_n (pc := 3) dX12_tell_3 rfl ?_
  refine r_lstore (pc := 4) dX12_tell_4 (by decide) ?_
  exact loop b.toNat a b _ (Nat.le_refl _) (by omega) (by omega) (by omega) rfl
def sumC (p : Int) (n k : Nat) (N : Nat → Int) : Nat → Int
  | 0 => 0
  | s + 1 => sumC p n k N s + (if fedR s n 0 N = true then p ^ popW 30 s * (10 - p) ^ (k - popW 30 s) else 0)
def zFr (T : RS) (a b : Int) : RS := (T.1, T.2.1, T.2.2.1, T.2.2.2.1, T.2.2.2.2.1, T.2.2.2.2.2.1, a / gI a b, b / gI a b)
def chanceM (T : RS) (n p : Int) : Int × RS := if (0 ≤ n ∧ n ≤ 60) ∧ (0 ≤ p ∧ p ≤ 10) then (if noonsF T.1 n.toNat ≤ 8 then (1, zFr T (sumC p n.toNat (noonsF T.1 n.toNat).toNat T.1 (2 ^ (noonsF T.1 n.toNat).toNat)) (10 ^ (noonsF T.1 n.toNat).toNat)) else (-3, zO T)) else (-2, zB T)
theorem popW8 : ∀ s : Fin 256, popW 30 s.val ≤ 8 ∧ (s.val < 1 → popW 30 s.val ≤ 0) ∧ (s.val < 2 → popW 30 s.val ≤ 1) ∧ (s.val < 4 → popW 30 s.val ≤ 2) ∧ (s.val < 8 → popW 30 s.val ≤ 3) ∧ (s.val < 16 → popW 30 s.val ≤ 4) ∧ (s.val < 32 → popW 30 s.val ≤ 5) ∧ (s.val < 64 → popW 30 s.val ≤ 6) ∧ (s.val < 128 → popW 30 s.val ≤ 7) := by decide +kernel
theorem popW_k {s k : Nat} (hk : k ≤ 8) (hs : s < 2 ^ k) : popW 30 s ≤ k := by
  have h256 : 2 ^ k ≤ 256 := Nat.le_trans (Nat.pow_le_pow_right (by decide) hk) (by decide)
  obtain ⟨a, b0, b1, b2, b3, b4, b5, b6, b7⟩ := popW8 ⟨s, by omega⟩
  match k, hk, hs with
  | 0, _, hs => exact b0 hs
  | 1, _, hs => exact b1 hs
  | 2, _, hs => exact b2 hs
  | 3, _, hs => exact b3 hs
  | 4, _, hs => exact b4 hs
  | 5, _, hs => exact b5 hs
  | 6, _, hs => exact b6 hs
  | 7, _, hs => exact b7 hs
  | 8, _, hs => exact a
  | k + 9, hk, _ => exact absurd hk (by omega)
theorem sX12_chance {n p : Int} (hm : RfL G C P m := by assumption) (hF : FI (I (m + 1)) Y := by assumption) (hY : Y ≤ 900000 := by omega) (hn : iR n := by omega) (hp : iR p := by omega) (hsum : (0 ≤ n ∧ n ≤ 60) ∧ (0 ≤ p ∧ p ≤ 10) → noonsF (I (m + 1)) n.toNat ≤ 8 → 0 ≤ sumC p n.toNat (noonsF (I (m + 1)) n.toNat).toNat (I (m + 1)) (2 ^ (noonsF (I (m + 1)) n.toNat).toNat) ∧ sumC p n.toNat (noonsF (I (m + 1)) n.toNat).toNat (I (m + 1)) (2 ^ (noonsF (I (m + 1)) n.toNat).toNat) ≤ 1000000000) : SX12_chance G [.ref m, .int (zI n), .int (zI p)] C I P L (NI C (QZ m (chanceM (rdM m I L) n p).1 (chanceM (rdM m I L) n p).2 P)) := by
  obtain ⟨hBm, hKm, hK1, hK2, hK3, hK4, hK5, hK6, hK7, hK8, hK9, hK10, hK11, hP0, hP1, hP2, hP3, hP6, hP7, hP8, hP9, hP10, hP16, hP17⟩ := id hm
  have eN : (uR I (m + 5) (mix33 (I (m + 1)) (I (m + 5)))) (m + 1) = I (m + 1) := uR_n I _ (show m + 1 ≠ m + 5 by omega)
  have eN2 : uR (uR I (m + 5) (mix33 (I (m + 1)) (I (m + 5)))) (m + 1) (I (m + 1)) = uR I (m + 5) (mix33 (I (m + 1)) (I (m + 5))) := by
    have q := uR_same (uR I (m + 5) (mix33 (I (m + 1)) (I (m + 5)))) (m + 1)
    rwa [eN] at q
  generalize hW : mix33 (I (m + 1)) (I (m + 5)) = W at eN eN2
  have hWl : ∀ k, k < 33 → W k = I (m + 1) k := fun k hk => by rw [← hW]; exact mix33_lo _ _ k hk
  have hnn := noonsF_in (I (m + 1)) n.toNat
  obtain ⟨k, hk⟩ : ∃ k : Nat, noonsF (I (m + 1)) n.toNat = (k : Int) := ⟨(noonsF (I (m + 1)) n.toNat).toNat, by omega⟩
  have eR : (rdM m I L).1 = I (m + 1) := rfl
  rw [hk, Int.toNat_natCast] at hsum
  have hno : (k : Int) ≤ 8 → noonsF (I (m + 1)) n.toNat ≤ 8 := fun h => by omega
  rw [hk] at hnn
  have nb : ∀ b : Bool, iR (if b = true then 1 else 0) := fun b => by cases b <;> decide
  refine en_I (by decide +kernel) (Nat.le_of_ble_eq_true rfl) ?_
  change Wd _ _ _ _ _ _ _ _ 0 [some _, some _, some _, none, none, none, none, none] [] _ _ _ _
  have loop : ∀ (d s : Nat) (si a : Int) (w : Option Value), s + d = 2 ^ k → ((0 ≤ n ∧ n ≤ 60) ∧ (0 ≤ p ∧ p ≤ 10)) → (k : Int) ≤ 8 → si = (s : Int) → a = sumC p n.toNat k (I (m + 1)) s → Wd G yX12_chance cX12_chance 8 (some .int) 6 (C.2.1 + 0, C.2.2 + 0) (NI C (QZ m (chanceM (rdM m I L) n p).1 (chanceM (rdM m I L) n p).2 P)) 58 [some (.ref m), some (.int (zI n)), some (.int (zI p)), some (.int (zI (k : Int))), some (.long (zL a)), none, some (.int (zI si)), w] [] C (uR (uR I (m + 5) W) (m + 1) (I (m + 1))) P L := by
    intro d
    induction d using Nat.strongRecOn with
    | _ d ih =>
      intro s si a w hd hz hk8 hsi ha
      have hno8 := hno hk8
      have h256 : 2 ^ k ≤ 256 := Nat.le_trans (Nat.pow_le_pow_right (by decide) (show k ≤ 8 by omega)) (by decide)
      have hshl : b_shl 1 (k : Int) = ((2 ^ k : Nat) : Int) := b_shl1 (by omega)
      have hten := ten_le (k := k) (by omega)
      by_cases hlt : s < 2 ^ k
      · obtain ⟨v1, hv1⟩ : ∃ v, v = popW 30 s := ⟨_, rfl⟩
        have hpw := popW_k (k := k) (by omega) hlt
        rw [← hv1] at hpw
        have hst : sumC p n.toNat k (I (m + 1)) (s + 1) = a + (if fedR s n.toNat 0 (I (m + 1)) = true then p ^ v1 * (10 - p) ^ (k - v1) else 0) := by rw [sumC, ← ha, ← hv1]
        refine r_iload (pc := 58) dX12_chance_58 rfl ?_
        refine r_iconst (pc := 60) dX12_chance_60 ?_
        refine r_iload_n (pc := 61) dX12_chance_61 rfl ?_
        refine r_ishl (pc := 62) dX12_chance_62 ?_
        rw [hshl]
        refine r_icmp_ge (pc := 63) 123 dX12_chance_63 (by decide) (by first | omega | exact nb _) (by first | omega | exact nb _) (fun h63 => ?_) (fun h63 => ?_)
        · exfalso; omega
        · skip
          refine r_aload_n (pc := 66) dX12_chance_66 rfl ?_
          refine r_iload_n (pc := 67) dX12_chance_67 rfl ?_
          refine r_iload (pc := 68) dX12_chance_68 rfl ?_
          refine i_V2ig (pc := 70) okX12_isFed inX12_isFed selX12_isFed q1262 dX12_chance_70 (by assumption) rfl (by decide) (Nat.le_of_ble_eq_true rfl) (sX12_isFed (Y := Y) (n := n.toNat) (s := s)) (fun r3 I3 P3 L3 hq3 => ?_)
          obtain ⟨rfl, ⟨R', hR', rfl⟩, rfl, rfl⟩ := hq3
          try simp only [u2_I, uR_uR, uR_app, eq_self, Nat.reduceEqDiff, Nat.add_eq_left, Nat.left_eq_add, ↓reduceIte]
          refine r_istore (pc := 73) dX12_chance_73 (by decide) ?_
          refine r_aload_n (pc := 75) dX12_chance_75 rfl ?_
          refine i_V0vx (pc := 76) okX12_back inX12_back selX12_back q1235 dX12_chance_76 (by assumption) rfl (by decide) (Nat.le_of_ble_eq_true rfl) (sX12_back) ?_
          try simp only [u2_I, uR_uR, uR_app, eq_self, Nat.reduceEqDiff, Nat.add_eq_left, Nat.left_eq_add, ↓reduceIte]
          rw [mix33_back hWl hR']
          refine r_lload (pc := 79) dX12_chance_79 rfl ?_
          refine r_iload (pc := 81) dX12_chance_81 rfl ?_
          refine r_if_eq (pc := 83) 113 dX12_chance_83 (by decide) (by first | omega | exact nb _) (fun h83 => ?_) (fun h83 => ?_)
          · skip
            refine r_lconst (v := 0) (pc := 113) dX12_chance_113 (by decide) ?_
            refine r_ladd (pc := 114) dX12_chance_114 ?_
            refine r_lstore (pc := 115) dX12_chance_115 (by decide) ?_
            refine r_iinc (pc := 117) dX12_chance_117 rfl ?_
            refine r_goto (pc := 120) 58 dX12_chance_120 (by decide) ?_
            refine ih (d - 1) (by omega) (s + 1) _ _ _ (by omega) hz hk8 (by omega) ?_
            rw [hst, if_neg (by revert h83; cases fedR s n.toNat 0 (I (m + 1)) <;> simp)]
          · skip
            refine r_iload_n (pc := 86) dX12_chance_86 rfl ?_
            refine r_iload (pc := 87) dX12_chance_87 rfl ?_
            refine i_S1ix (pc := 89) okX12_bits staX12_bits q1266 dX12_chance_89 (by decide) (Nat.le_of_ble_eq_true rfl) (sX12_bits (s := s)) ?_
            try simp only [u2_I, uR_uR, uR_app, eq_self, Nat.reduceEqDiff, Nat.add_eq_left, Nat.left_eq_add, ↓reduceIte]
            rw [← hv1]
            refine i_S2lx (pc := 92) okX12_ways staX12_ways q1269 dX12_chance_92 (by decide) (Nat.le_of_ble_eq_true rfl) (sX12_ways (n := v1)) ?_
            try simp only [u2_I, uR_uR, uR_app, eq_self, Nat.reduceEqDiff, Nat.add_eq_left, Nat.left_eq_add, ↓reduceIte]
            refine r_bipush (pc := 95) dX12_chance_95 (by decide) ?_
            refine r_iload_n (pc := 97) dX12_chance_97 rfl ?_
            refine r_isub (pc := 98) dX12_chance_98 ?_
            refine r_iload_n (pc := 99) dX12_chance_99 rfl ?_
            refine r_iload (pc := 100) dX12_chance_100 rfl ?_
            refine i_S1ix (pc := 102) okX12_bits staX12_bits q1266 dX12_chance_102 (by decide) (Nat.le_of_ble_eq_true rfl) (sX12_bits (s := s)) ?_
            try simp only [u2_I, uR_uR, uR_app, eq_self, Nat.reduceEqDiff, Nat.add_eq_left, Nat.left_eq_add, ↓reduceIte]
            rw [← hv1]
            refine r_isub (pc := 105) dX12_chance_105 ?_
            refine i_S2lx (pc := 106) okX12_ways staX12_ways q1269 dX12_chance_106 (by decide) (Nat.le_of_ble_eq_true rfl) (sX12_ways (n := k - v1)) ?_
            try simp only [u2_I, uR_uR, uR_app, eq_self, Nat.reduceEqDiff, Nat.add_eq_left, Nat.left_eq_add, ↓reduceIte]
            refine r_lmul (pc := 109) dX12_chance_109 ?_
            refine r_goto (pc := 110) 114 dX12_chance_110 (by decide) ?_
            refine r_ladd (pc := 114) dX12_chance_114 ?_
            refine r_lstore (pc := 115) dX12_chance_115 (by decide) ?_
            refine r_iinc (pc := 117) dX12_chance_117 rfl ?_
            refine r_goto (pc := 120) 58 dX12_chance_120 (by decide) ?_
            refine ih (d - 1) (by omega) (s + 1) _ _ _ (by omega) hz hk8 (by omega) ?_
            rw [hst, if_pos (by revert h83; cases fedR s n.toNat 0 (I (m + 1)) <;> simp)]
      · have hse : s = 2 ^ k := by omega
        have hsm := hsum hz hk8
        rw [← hse, ← ha] at hsm
        refine r_iload (pc := 58) dX12_chance_58 rfl ?_
        refine r_iconst (pc := 60) dX12_chance_60 ?_
        refine r_iload_n (pc := 61) dX12_chance_61 rfl ?_
        refine r_ishl (pc := 62) dX12_chance_62 ?_
        rw [hshl]
        refine r_icmp_ge (pc := 63) 123 dX12_chance_63 (by decide) (by omega) (by omega) (fun h63 => ?_) (fun h63 => ?_)
        · skip
          refine r_aload_n (pc := 123) dX12_chance_123 rfl ?_
          refine r_lload (pc := 124) dX12_chance_124 rfl ?_
          refine r_bipush (pc := 126) dX12_chance_126 (by decide) ?_
          refine r_iload_n (pc := 128) dX12_chance_128 rfl ?_
          refine i_S2lx (pc := 129) okX12_ways staX12_ways q1269 dX12_chance_129 (by decide) (Nat.le_of_ble_eq_true rfl) (sX12_ways (n := k)) ?_
          try simp only [u2_I, uR_uR, uR_app, eq_self, Nat.reduceEqDiff, Nat.add_eq_left, Nat.left_eq_add, ↓reduceIte]
          refine i_V2vx (pc := 132) okX12_tell inX12_tell selX12_tell q1272 dX12_chance_132 (by assumption) rfl (by decide) (Nat.le_of_ble_eq_true rfl) (sX12_tell) ?_
          refine r_iconst (pc := 135) dX12_chance_135 ?_
          refine t_iret (pc := 136) dX12_chance_136 rfl rfl ?_
          unfold chanceM
          rw [if_pos hz, eR, hk, if_pos hk8, Int.toNat_natCast, ← hse, ← ha]
          refine ⟨rfl, ?_, rfl⟩
          have q : rdM m (uR (uR I (m + 5) W) (m + 1) (I (m + 1))) L = rdM m I L := rdM_w m I L _
          unfold rdM at q ⊢
          rw [u2_s, u2_k _ _ _ _ (by decide), u2_s]
          injection q with q1 q2
          injection q2 with q2 q3
          injection q3 with q3 q4
          injection q4 with q4 q5
          injection q5 with q5 q6
          injection q6 with q6 q7
          rw [q1, q2, q3, q4, q5, q6]; rfl
        · exfalso; omega
  refine r_iload_n (pc := 0) dX12_chance_0 rfl ?_
  refine r_i2l (pc := 1) dX12_chance_1 (by first | omega | (split <;> decide)) ?_
  refine r_lconst (v := 0) (pc := 2) dX12_chance_2 (by decide) ?_
  refine r_ldc2_w (v := (60 : Int)) (pc := 3) dX12_chance_3 kcX12_164 ?_
  refine i_S3ix (pc := 6) okX12_in staX12_in q1098 dX12_chance_6 (by decide) (Nat.le_of_ble_eq_true rfl) (sX12_in) ?_
  refine r_if_eq (pc := 9) 24 dX12_chance_9 (by decide) (by first | omega | (split <;> decide)) (fun h9 => ?_) (fun h9 => ?_)
  · skip
    refine r_aload_n (pc := 24) dX12_chance_24 rfl ?_
    refine r_bipush (pc := 25) dX12_chance_25 (by decide) ?_
    refine i_V1ix (pc := 27) okX12_bad inX12_bad selX12_bad q1101 dX12_chance_27 (by assumption) rfl (by decide) (Nat.le_of_ble_eq_true rfl) (sX12_bad) ?_
    refine t_iret (pc := 30) dX12_chance_30 rfl rfl ?_
    unfold chanceM
    rw [if_neg (fun hz => by first | exact (wf h9) hz.1 | exact (wf h21) hz.2)]
    exact QZ_bad
  · skip
    refine r_iload_n (pc := 12) dX12_chance_12 rfl ?_
    refine r_i2l (pc := 13) dX12_chance_13 (by first | omega | (split <;> decide)) ?_
    refine r_lconst (v := 0) (pc := 14) dX12_chance_14 (by decide) ?_
    refine r_ldc2_w (v := (10 : Int)) (pc := 15) dX12_chance_15 kcX12_166 ?_
    refine i_S3ix (pc := 18) okX12_in staX12_in q1098 dX12_chance_18 (by decide) (Nat.le_of_ble_eq_true rfl) (sX12_in) ?_
    refine r_if_ne (pc := 21) 31 dX12_chance_21 (by decide) (by first | omega | (split <;> decide)) (fun h21 => ?_) (fun h21 => ?_)
    · skip
      have h1 := wt h9
      have h2 := wt h21
      refine r_aload_n (pc := 31) dX12_chance_31 rfl ?_
      refine r_iload_n (pc := 32) dX12_chance_32 rfl ?_
      refine i_V1ix (pc := 33) okX12_noons inX12_noons selX12_noons q1258 dX12_chance_33 (by assumption) rfl (by decide) (Nat.le_of_ble_eq_true rfl) (sX12_noons (Y := Y) (n := n.toNat)) ?_
      rw [hk]
      refine r_istore_n (pc := 36) dX12_chance_36 (by decide) ?_
      refine r_iload_n (pc := 37) dX12_chance_37 rfl ?_
      refine r_bipush (pc := 38) dX12_chance_38 (by decide) ?_
      refine r_icmp_le (pc := 40) 48 dX12_chance_40 (by decide) (by first | omega | (split <;> decide)) (by first | omega | (split <;> decide)) (fun h40 => ?_) (fun h40 => ?_)
      · skip
        refine r_lconst (v := 0) (pc := 48) dX12_chance_48 (by decide) ?_
        refine r_lstore (pc := 49) dX12_chance_49 (by decide) ?_
        refine r_aload_n (pc := 51) dX12_chance_51 rfl ?_
        refine i_V0vx (pc := 52) okX12_start inX12_start selX12_start q1224 dX12_chance_52 (by assumption) rfl (by decide) (Nat.le_of_ble_eq_true rfl) (sX12_start) ?_
        try simp only [u2_I, uR_uR, uR_app, eq_self, Nat.reduceEqDiff, Nat.add_eq_left, Nat.left_eq_add, ↓reduceIte]
        rw [hW]
        refine r_iconst (pc := 55) dX12_chance_55 ?_
        refine r_istore (pc := 56) dX12_chance_56 (by decide) ?_
        rw [← eN2]
        exact loop (2 ^ k) 0 _ _ _ (by omega) ⟨h1, h2⟩ (by omega) rfl rfl
      · skip
        refine r_aload_n (pc := 43) dX12_chance_43 rfl ?_
        refine i_V0ix (pc := 44) okX12_no inX12_no selX12_no q1203 dX12_chance_44 (by assumption) rfl (by decide) (Nat.le_of_ble_eq_true rfl) (sX12_no) ?_
        refine t_iret (pc := 47) dX12_chance_47 rfl rfl ?_
        unfold chanceM
        rw [if_pos ⟨h1, h2⟩, eR, hk, if_neg (by omega)]
        exact QZ_no
    · skip
      refine r_aload_n (pc := 24) dX12_chance_24 rfl ?_
      refine r_bipush (pc := 25) dX12_chance_25 (by decide) ?_
      refine i_V1ix (pc := 27) okX12_bad inX12_bad selX12_bad q1101 dX12_chance_27 (by assumption) rfl (by decide) (Nat.le_of_ble_eq_true rfl) (sX12_bad) ?_
      refine t_iret (pc := 30) dX12_chance_30 rfl rfl ?_
      unfold chanceM
      rw [if_neg (fun hz => by first | exact (wf h9) hz.1 | exact (wf h21) hz.2)]
      exact QZ_bad
end REF6

