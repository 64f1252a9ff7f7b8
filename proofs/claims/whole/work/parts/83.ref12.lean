/-! the reference: a text read -/
def TSf (n : Nat) (T : Nat × Nat × Int) (v : Int) (W : Nat → Int) : Prop := W 11 = (n : Int) ∧ W 12 = (T.1 : Int) ∧ W 13 = (T.2.1 : Int) - (T.1 : Int) ∧ W 14 = kM T.2.2 ∧ (T.2.2 = 3 → W 15 = v)
theorem kM_in {so : Int} (h : 0 ≤ so ∧ so ≤ 4) : 0 ≤ kM so ∧ kM so ≤ 4 ∧ (kM so = 0 ↔ so = 0) ∧ (kM so = 1 ↔ so = 2) ∧ (kM so = 2 ↔ so = 3) ∧ (kM so = 3 ↔ so = 1) := by
  unfold kM
  split
  · omega
  · split
    · omega
    · split <;> omega
def nmB (b : Nat → Int) (T : Nat × Nat × Int) (z : Nat) (R : Nat → Int) : Bool := decide (T.2.2 = 2 ∧ T.2.1 = T.1 + z ∧ ∀ j, j < z → b (T.1 + j) = R j)
def szN (d e f : Int) : Nat := if d = 0 then 3 else if e = 0 then 4 else if f = 0 then 5 else 6
section REF12
variable {G : WG} {C : CF} {I : MI} {P : MP} {L : ML} {m n : Nat} {T : Nat × Nat × Int} {v : Int}
theorem sX12_goOn (hm : RfL G C P m := by assumption) (hT : TSf n T v (I m) := by assumption) (h150 : n ≤ 150 := by omega) (hbb : ∀ j, j < 150 → 0 ≤ I (m + 9) j ∧ I (m + 9) j ≤ 127 := by assumption) (hTn : T.1 ≤ T.2.1 ∧ T.2.1 ≤ n := by omega) : SX12_goOn G [.ref m] C I P L (NV C (QK m n (tok (I (m + 9)) n T.2.1) (tokV (I (m + 9)) n T.2.1) I P L)) := by
  obtain ⟨hBm, hKm, hK1, hK2, hK3, hK4, hK5, hK6, hK7, hK8, hK9, hK10, hK11, hP0, hP1, hP2, hP3, hP6, hP7, hP8, hP9, hP10, hP16, hP17⟩ := id hm
  obtain ⟨h11, h12, h13, h14, h15⟩ := id hT
  refine en_V (by decide +kernel) (Nat.le_of_ble_eq_true rfl) ?_
  change Wd _ _ _ _ _ _ _ _ 0 [some _] [] _ _ _ _
  refine r_aload_n (pc := 0) dX12_goOn_0 rfl ?_
  refine r_aload_n (pc := 1) dX12_goOn_1 rfl ?_
  refine r_getI (pc := 2) dX12_goOn_2 frX12_251 (by assumption) ?_
  refine r_aload_n (pc := 5) dX12_goOn_5 rfl ?_
  refine r_getI (pc := 6) dX12_goOn_6 frX12_254 (by assumption) ?_
  refine r_iadd (pc := 9) dX12_goOn_9 ?_
  refine i_V1vg (pc := 10) okX12_look inX12_look selX12_look q1396 dX12_goOn_10 (by assumption) rfl (by decide) (Nat.le_of_ble_eq_true rfl) (sX12_look (n := n) (a := T.2.1)) (fun I3 P3 L3 hq3 => ?_)
  try simp only [u2_I, uR_uR, uR_app, eq_self, Nat.reduceEqDiff, Nat.add_eq_left, Nat.left_eq_add, ↓reduceIte]
  refine t_vret (pc := 13) dX12_goOn_13 rfl ?_
  exact hq3
theorem sX12_isName {a b c d e f : Int} (hm : RfL G C P m := by assumption) (hT : TSf n T v (I m) := by assumption) (h150 : n ≤ 150 := by omega) (hbb : ∀ j, j < 150 → 0 ≤ I (m + 9) j ∧ I (m + 9) j ≤ 127 := by assumption) (hTn : T.1 ≤ T.2.1 ∧ T.2.1 ≤ n := by omega) (hso : 0 ≤ T.2.2 ∧ T.2.2 ≤ 4 := by omega) (ha : iR a := by decide) (hb : iR b := by decide) (hc : iR c := by decide) (hd : iR d := by decide) (he : iR e := by decide) (hf : iR f := by decide) : SX12_isName G [.ref m, .int (zI a), .int (zI b), .int (zI c), .int (zI d), .int (zI e), .int (zI f)] C I P L (NI C (XI (if nmB (I (m + 9)) T (szN d e f) (rowL a b c d e f) = true then 1 else 0) I P L)) := by
  obtain ⟨hBm, hKm, hK1, hK2, hK3, hK4, hK5, hK6, hK7, hK8, hK9, hK10, hK11, hP0, hP1, hP2, hP3, hP6, hP7, hP8, hP9, hP10, hP16, hP17⟩ := id hm
  obtain ⟨h11, h12, h13, h14, h15⟩ := id hT
  obtain ⟨k0, k4, ke0, ke1, ke2, ke3⟩ := kM_in hso
  have hz : szN d e f ≤ 6 := by unfold szN; (repeat' split) <;> omega
  have hz1 : 1 ≤ szN d e f := by unfold szN; (repeat' split) <;> omega
  have hzd : szN d e f = if d = 0 then 3 else if e = 0 then 4 else if f = 0 then 5 else 6 := rfl
  generalize hR : rowL a b c d e f = R
  have r0 : R 0 = a := by rw [← hR]; rfl
  have r1 : R 1 = b := by rw [← hR]; rfl
  have r2 : R 2 = c := by rw [← hR]; rfl
  have r3 : R 3 = d := by rw [← hR]; rfl
  have r4 : R 4 = e := by rw [← hR]; rfl
  have r5 : R 5 = f := by rw [← hR]; rfl
  generalize szN d e f = z at hz hz1 hzd
  refine en_I (by decide +kernel) (Nat.le_of_ble_eq_true rfl) ?_
  change Wd _ _ _ _ _ _ _ _ 0 [some _, some _, some _, some _, some _, some _, some _, none, none, none] [] _ _ _ _
  have out : ∀ (i : Int), ∀ (x : Int) (hx : x = 0 ∨ x = 1), iR i → (i = z ∨ x = 0) → (x = if nmB (I (m + 9)) T z R = true then 1 else 0) → Wd G yX12_isName cX12_isName 10 (some .boolean) 0 (C.2.1 + 0, C.2.2 + 0) (NI C (XI (if nmB (I (m + 9)) T z R = true then 1 else 0) I P L)) 58 [some (.ref m), some (.int (zI a)), some (.int (zI b)), some (.int (zI c)), some (.int (zI d)), some (.int (zI e)), some (.int (zI f)), some (.int (zI (z : Int))), some (.int (zI x)), some (.int (zI i))] [] C I P L := by
    intro i x hx hi hix hxn
    refine r_iload (pc := 58) dX12_isName_58 rfl ?_
    refine r_iload (pc := 60) dX12_isName_60 rfl ?_
    refine r_icmp_ge (pc := 62) 151 dX12_isName_62 (by decide) (by omega) (by omega) (fun h62 => ?_) (fun h62 => ?_)
    · skip
      refine r_iload (pc := 151) dX12_isName_151 rfl ?_
      refine t_iret (pc := 153) dX12_isName_153 rfl (nar_z hx) ?_
      exact ⟨hxn, rfl, rfl, rfl⟩
    · skip
      refine r_iload (pc := 65) dX12_isName_65 rfl ?_
      refine r_if_eq (pc := 67) 151 dX12_isName_67 (by decide) (by omega) (fun h67 => ?_) (fun h67 => ?_)
      · skip
        refine r_iload (pc := 151) dX12_isName_151 rfl ?_
        refine t_iret (pc := 153) dX12_isName_153 rfl (nar_z hx) ?_
        exact ⟨hxn, rfl, rfl, rfl⟩
      · exfalso; omega
  have loop : ∀ (d0 o : Nat) (i : Int), o + d0 = z → i = (o : Int) → T.2.2 = 2 → T.2.1 = T.1 + z → (∀ j, j < o → I (m + 9) (T.1 + j) = R j) → Wd G yX12_isName cX12_isName 10 (some .boolean) 0 (C.2.1 + 0, C.2.2 + 0) (NI C (XI (if nmB (I (m + 9)) T z R = true then 1 else 0) I P L)) 58 [some (.ref m), some (.int (zI a)), some (.int (zI b)), some (.int (zI c)), some (.int (zI d)), some (.int (zI e)), some (.int (zI f)), some (.int (zI (z : Int))), some (.int (zI 1)), some (.int (zI i))] [] C I P L := by
    intro d0
    induction d0 with
    | zero =>
      intro o i ho hi h2 hl hj
      refine out i 1 (Or.inr rfl) (by omega) (Or.inl (by omega)) ?_
      rw [if_pos]
      exact decide_eq_true ⟨h2, hl, fun j hjz => hj j (by omega)⟩
    | succ d0 ih =>
      intro o i ho hi h2 hl hj
      have hbo := hbb (T.1 + o) (by omega)
      have hRo : iR (R o) := by
        rcases (show o = 0 ∨ o = 1 ∨ o = 2 ∨ o = 3 ∨ o = 4 ∨ o = 5 by omega) with h | h | h | h | h | h <;> rw [h]
        · rw [r0]; exact ha
        · rw [r1]; exact hb
        · rw [r2]; exact hc
        · rw [r3]; exact hd
        · rw [r4]; exact he
        · rw [r5]; exact hf
      have hno : ¬ I (m + 9) (T.1 + o) = R o → (0 : Int) = if nmB (I (m + 9)) T z R = true then 1 else 0 := fun hne => by
        rw [if_neg]
        unfold nmB
        rw [decide_eq_true_eq]
        exact fun q => hne (q.2.2 o (by omega))
      have hyes : I (m + 9) (T.1 + o) = R o → ∀ j, j < o + 1 → I (m + 9) (T.1 + j) = R j := fun he2 j hj2 => by
        by_cases hjo : j = o
        · rw [hjo]; exact he2
        · exact hj j (by omega)
      refine r_iload (pc := 58) dX12_isName_58 rfl ?_
      refine r_iload (pc := 60) dX12_isName_60 rfl ?_
      refine r_icmp_ge (pc := 62) 151 dX12_isName_62 (by decide) (by omega) (by omega) (fun h62 => ?_) (fun h62 => ?_)
      · exfalso; omega
      · skip
        refine r_iload (pc := 65) dX12_isName_65 rfl ?_
        refine r_if_eq (pc := 67) 151 dX12_isName_67 (by decide) (by omega) (fun h67 => ?_) (fun h67 => ?_)
        · exact absurd h67 (by decide)
        · skip
          refine r_aload_n (pc := 70) dX12_isName_70 rfl ?_
          refine r_getA (pc := 71) dX12_isName_71 frX12_39 (by assumption) (by assumption) ?_
          refine r_aload_n (pc := 74) dX12_isName_74 rfl ?_
          refine r_getI (pc := 75) dX12_isName_75 frX12_251 (by assumption) ?_
          rw [h12]
          refine r_iload (pc := 78) dX12_isName_78 rfl ?_
          refine r_iadd (pc := 80) dX12_isName_80 ?_
          refine r_iald (j := T.1 + o) (pc := 81) dX12_isName_81 (by assumption) (by omega) (by omega) (by omega) ?_
          refine r_iload (pc := 82) dX12_isName_82 rfl ?_
          refine r_if_ne (pc := 84) 91 dX12_isName_84 (by decide) (by omega) (fun h84 => ?_) (fun h84 => ?_)
          · skip
            refine r_iload (pc := 91) dX12_isName_91 rfl ?_
            refine r_iconst (pc := 93) dX12_isName_93 ?_
            refine r_icmp_ne (pc := 94) 101 dX12_isName_94 (by decide) (by omega) (by omega) (fun h94 => ?_) (fun h94 => ?_)
            · skip
              refine r_iload (pc := 101) dX12_isName_101 rfl ?_
              refine r_iconst (pc := 103) dX12_isName_103 ?_
              refine r_icmp_ne (pc := 104) 111 dX12_isName_104 (by decide) (by omega) (by omega) (fun h104 => ?_) (fun h104 => ?_)
              · skip
                refine r_iload (pc := 111) dX12_isName_111 rfl ?_
                refine r_iconst (pc := 113) dX12_isName_113 ?_
                refine r_icmp_ne (pc := 114) 122 dX12_isName_114 (by decide) (by omega) (by omega) (fun h114 => ?_) (fun h114 => ?_)
                · skip
                  refine r_iload (pc := 122) dX12_isName_122 rfl ?_
                  refine r_iconst (pc := 124) dX12_isName_124 ?_
                  refine r_icmp_ne (pc := 125) 133 dX12_isName_125 (by decide) (by omega) (by omega) (fun h125 => ?_) (fun h125 => ?_)
                  · skip
                    refine r_iload (pc := 133) dX12_isName_133 rfl ?_
                    refine r_icmp_ne (pc := 135) 142 dX12_isName_135 (by decide) (by omega) (by omega) (fun h135 => ?_) (fun h135 => ?_)
                    · skip
                      refine r_iconst (pc := 142) dX12_isName_142 ?_
                      refine r_istore (pc := 143) dX12_isName_143 (by decide) ?_
                      refine r_iinc (pc := 145) dX12_isName_145 rfl ?_
                      refine r_goto (pc := 148) 58 dX12_isName_148 (by decide) ?_
                      refine out _ 0 (Or.inl rfl) (by omega) (Or.inr rfl) (hno (fun q => h135 (by rw [q]; first | (rw [show o = 0 by omega]; exact r0) | (rw [show o = 1 by omega]; exact r1) | (rw [show o = 2 by omega]; exact r2) | (rw [show o = 3 by omega]; exact r3) | (rw [show o = 4 by omega]; exact r4) | (rw [show o = 5 by omega]; exact r5))))
                    · skip
                      refine r_iconst (pc := 138) dX12_isName_138 ?_
                      refine r_goto (pc := 139) 143 dX12_isName_139 (by decide) ?_
                      refine r_istore (pc := 143) dX12_isName_143 (by decide) ?_
                      refine r_iinc (pc := 145) dX12_isName_145 rfl ?_
                      refine r_goto (pc := 148) 58 dX12_isName_148 (by decide) ?_
                      refine ih (o + 1) _ (by omega) (by omega) h2 hl (hyes ?_)
                      rw [h135]
                      first | (rw [show o = 0 by omega]; exact r0.symm) | (rw [show o = 1 by omega]; exact r1.symm) | (rw [show o = 2 by omega]; exact r2.symm) | (rw [show o = 3 by omega]; exact r3.symm) | (rw [show o = 4 by omega]; exact r4.symm) | (rw [show o = 5 by omega]; exact r5.symm)
                  · skip
                    refine r_iload (pc := 128) dX12_isName_128 rfl ?_
                    refine r_goto (pc := 130) 135 dX12_isName_130 (by decide) ?_
                    refine r_icmp_ne (pc := 135) 142 dX12_isName_135 (by decide) (by omega) (by omega) (fun h135 => ?_) (fun h135 => ?_)
                    · skip
                      refine r_iconst (pc := 142) dX12_isName_142 ?_
                      refine r_istore (pc := 143) dX12_isName_143 (by decide) ?_
                      refine r_iinc (pc := 145) dX12_isName_145 rfl ?_
                      refine r_goto (pc := 148) 58 dX12_isName_148 (by decide) ?_
                      refine out _ 0 (Or.inl rfl) (by omega) (Or.inr rfl) (hno (fun q => h135 (by rw [q]; first | (rw [show o = 0 by omega]; exact r0) | (rw [show o = 1 by omega]; exact r1) | (rw [show o = 2 by omega]; exact r2) | (rw [show o = 3 by omega]; exact r3) | (rw [show o = 4 by omega]; exact r4) | (rw [show o = 5 by omega]; exact r5))))
                    · skip
                      refine r_iconst (pc := 138) dX12_isName_138 ?_
                      refine r_goto (pc := 139) 143 dX12_isName_139 (by decide) ?_
                      refine r_istore (pc := 143) dX12_isName_143 (by decide) ?_
                      refine r_iinc (pc := 145) dX12_isName_145 rfl ?_
                      refine r_goto (pc := 148) 58 dX12_isName_148 (by decide) ?_
                      refine ih (o + 1) _ (by omega) (by omega) h2 hl (hyes ?_)
                      rw [h135]
                      first | (rw [show o = 0 by omega]; exact r0.symm) | (rw [show o = 1 by omega]; exact r1.symm) | (rw [show o = 2 by omega]; exact r2.symm) | (rw [show o = 3 by omega]; exact r3.symm) | (rw [show o = 4 by omega]; exact r4.symm) | (rw [show o = 5 by omega]; exact r5.symm)
                · skip
                  refine r_iload (pc := 117) dX12_isName_117 rfl ?_
                  refine r_goto (pc := 119) 135 dX12_isName_119 (by decide) ?_
                  refine r_icmp_ne (pc := 135) 142 dX12_isName_135 (by decide) (by omega) (by omega) (fun h135 => ?_) (fun h135 => ?_)
                  · skip
                    refine r_iconst (pc := 142) dX12_isName_142 ?_
                    refine r_istore (pc := 143) dX12_isName_143 (by decide) ?_
                    refine r_iinc (pc := 145) dX12_isName_145 rfl ?_
                    refine r_goto (pc := 148) 58 dX12_isName_148 (by decide) ?_
                    refine out _ 0 (Or.inl rfl) (by omega) (Or.inr rfl) (hno (fun q => h135 (by rw [q]; first | (rw [show o = 0 by omega]; exact r0) | (rw [show o = 1 by omega]; exact r1) | (rw [show o = 2 by omega]; exact r2) | (rw [show o = 3 by omega]; exact r3) | (rw [show o = 4 by omega]; exact r4) | (rw [show o = 5 by omega]; exact r5))))
                  · skip
                    refine r_iconst (pc := 138) dX12_isName_138 ?_
                    refine r_goto (pc := 139) 143 dX12_isName_139 (by decide) ?_
                    refine r_istore (pc := 143) dX12_isName_143 (by decide) ?_
                    refine r_iinc (pc := 145) dX12_isName_145 rfl ?_
                    refine r_goto (pc := 148) 58 dX12_isName_148 (by decide) ?_
                    refine ih (o + 1) _ (by omega) (by omega) h2 hl (hyes ?_)
                    rw [h135]
                    first | (rw [show o = 0 by omega]; exact r0.symm) | (rw [show o = 1 by omega]; exact r1.symm) | (rw [show o = 2 by omega]; exact r2.symm) | (rw [show o = 3 by omega]; exact r3.symm) | (rw [show o = 4 by omega]; exact r4.symm) | (rw [show o = 5 by omega]; exact r5.symm)
              · skip
                refine r_iload_n (pc := 107) dX12_isName_107 rfl ?_
                refine r_goto (pc := 108) 135 dX12_isName_108 (by decide) ?_
                refine r_icmp_ne (pc := 135) 142 dX12_isName_135 (by decide) (by omega) (by omega) (fun h135 => ?_) (fun h135 => ?_)
                · skip
                  refine r_iconst (pc := 142) dX12_isName_142 ?_
                  refine r_istore (pc := 143) dX12_isName_143 (by decide) ?_
                  refine r_iinc (pc := 145) dX12_isName_145 rfl ?_
                  refine r_goto (pc := 148) 58 dX12_isName_148 (by decide) ?_
                  refine out _ 0 (Or.inl rfl) (by omega) (Or.inr rfl) (hno (fun q => h135 (by rw [q]; first | (rw [show o = 0 by omega]; exact r0) | (rw [show o = 1 by omega]; exact r1) | (rw [show o = 2 by omega]; exact r2) | (rw [show o = 3 by omega]; exact r3) | (rw [show o = 4 by omega]; exact r4) | (rw [show o = 5 by omega]; exact r5))))
                · skip
                  refine r_iconst (pc := 138) dX12_isName_138 ?_
                  refine r_goto (pc := 139) 143 dX12_isName_139 (by decide) ?_
                  refine r_istore (pc := 143) dX12_isName_143 (by decide) ?_
                  refine r_iinc (pc := 145) dX12_isName_145 rfl ?_
                  refine r_goto (pc := 148) 58 dX12_isName_148 (by decide) ?_
                  refine ih (o + 1) _ (by omega) (by omega) h2 hl (hyes ?_)
                  rw [h135]
                  first | (rw [show o = 0 by omega]; exact r0.symm) | (rw [show o = 1 by omega]; exact r1.symm) | (rw [show o = 2 by omega]; exact r2.symm) | (rw [show o = 3 by omega]; exact r3.symm) | (rw [show o = 4 by omega]; exact r4.symm) | (rw [show o = 5 by omega]; exact r5.symm)
            · skip
              refine r_iload_n (pc := 97) dX12_isName_97 rfl ?_
              refine r_goto (pc := 98) 135 dX12_isName_98 (by decide) ?_
              refine r_icmp_ne (pc := 135) 142 dX12_isName_135 (by decide) (by omega) (by omega) (fun h135 => ?_) (fun h135 => ?_)
              · skip
                refine r_iconst (pc := 142) dX12_isName_142 ?_
                refine r_istore (pc := 143) dX12_isName_143 (by decide) ?_
                refine r_iinc (pc := 145) dX12_isName_145 rfl ?_
                refine r_goto (pc := 148) 58 dX12_isName_148 (by decide) ?_
                refine out _ 0 (Or.inl rfl) (by omega) (Or.inr rfl) (hno (fun q => h135 (by rw [q]; first | (rw [show o = 0 by omega]; exact r0) | (rw [show o = 1 by omega]; exact r1) | (rw [show o = 2 by omega]; exact r2) | (rw [show o = 3 by omega]; exact r3) | (rw [show o = 4 by omega]; exact r4) | (rw [show o = 5 by omega]; exact r5))))
              · skip
                refine r_iconst (pc := 138) dX12_isName_138 ?_
                refine r_goto (pc := 139) 143 dX12_isName_139 (by decide) ?_
                refine r_istore (pc := 143) dX12_isName_143 (by decide) ?_
                refine r_iinc (pc := 145) dX12_isName_145 rfl ?_
                refine r_goto (pc := 148) 58 dX12_isName_148 (by decide) ?_
                refine ih (o + 1) _ (by omega) (by omega) h2 hl (hyes ?_)
                rw [h135]
                first | (rw [show o = 0 by omega]; exact r0.symm) | (rw [show o = 1 by omega]; exact r1.symm) | (rw [show o = 2 by omega]; exact r2.symm) | (rw [show o = 3 by omega]; exact r3.symm) | (rw [show o = 4 by omega]; exact r4.symm) | (rw [show o = 5 by omega]; exact r5.symm)
          · skip
            refine r_iload_n (pc := 87) dX12_isName_87 rfl ?_
            refine r_goto (pc := 88) 135 dX12_isName_88 (by decide) ?_
            refine r_icmp_ne (pc := 135) 142 dX12_isName_135 (by decide) (by omega) (by omega) (fun h135 => ?_) (fun h135 => ?_)
            · skip
              refine r_iconst (pc := 142) dX12_isName_142 ?_
              refine r_istore (pc := 143) dX12_isName_143 (by decide) ?_
              refine r_iinc (pc := 145) dX12_isName_145 rfl ?_
              refine r_goto (pc := 148) 58 dX12_isName_148 (by decide) ?_
              refine out _ 0 (Or.inl rfl) (by omega) (Or.inr rfl) (hno (fun q => h135 (by rw [q]; first | (rw [show o = 0 by omega]; exact r0) | (rw [show o = 1 by omega]; exact r1) | (rw [show o = 2 by omega]; exact r2) | (rw [show o = 3 by omega]; exact r3) | (rw [show o = 4 by omega]; exact r4) | (rw [show o = 5 by omega]; exact r5))))
            · skip
              refine r_iconst (pc := 138) dX12_isName_138 ?_
              refine r_goto (pc := 139) 143 dX12_isName_139 (by decide) ?_
              refine r_istore (pc := 143) dX12_isName_143 (by decide) ?_
              refine r_iinc (pc := 145) dX12_isName_145 rfl ?_
              refine r_goto (pc := 148) 58 dX12_isName_148 (by decide) ?_
              refine ih (o + 1) _ (by omega) (by omega) h2 hl (hyes ?_)
              rw [h135]
              first | (rw [show o = 0 by omega]; exact r0.symm) | (rw [show o = 1 by omega]; exact r1.symm) | (rw [show o = 2 by omega]; exact r2.symm) | (rw [show o = 3 by omega]; exact r3.symm) | (rw [show o = 4 by omega]; exact r4.symm) | (rw [show o = 5 by omega]; exact r5.symm)
  have head : ∀ (zi : Int), zi = (z : Int) → Wd G yX12_isName cX12_isName 10 (some .boolean) 0 (C.2.1 + 0, C.2.2 + 0) (NI C (XI (if nmB (I (m + 9)) T z R = true then 1 else 0) I P L)) 29 [some (.ref m), some (.int (zI a)), some (.int (zI b)), some (.int (zI c)), some (.int (zI d)), some (.int (zI e)), some (.int (zI f)), none, none, none] [.int (zI zi)] C I P L := by
    intro zi hzi
    subst hzi
    refine r_istore (pc := 29) dX12_isName_29 (by decide) ?_
    refine r_aload_n (pc := 31) dX12_isName_31 rfl ?_
    refine r_getI (pc := 32) dX12_isName_32 frX12_257 (by assumption) ?_
    rw [h14]
    refine r_iconst (pc := 35) dX12_isName_35 ?_
    refine r_icmp_ne (pc := 36) 52 dX12_isName_36 (by decide) (by omega) (by omega) (fun h36 => ?_) (fun h36 => ?_)
    · skip
      refine r_iconst (pc := 52) dX12_isName_52 ?_
      refine r_istore (pc := 53) dX12_isName_53 (by decide) ?_
      refine r_iconst (pc := 55) dX12_isName_55 ?_
      refine r_istore (pc := 56) dX12_isName_56 (by decide) ?_
      refine out 0 0 (Or.inl rfl) (by decide) (Or.inr rfl) ?_
      rw [if_neg]
      unfold nmB
      rw [decide_eq_true_eq]
      exact fun q => by first | exact h36 (ke1.mpr q.1) | (have := q.2.1; omega)
    · skip
      refine r_aload_n (pc := 39) dX12_isName_39 rfl ?_
      refine r_getI (pc := 40) dX12_isName_40 frX12_254 (by assumption) ?_
      rw [h13]
      refine r_iload (pc := 43) dX12_isName_43 rfl ?_
      refine r_icmp_ne (pc := 45) 52 dX12_isName_45 (by decide) (by omega) (by omega) (fun h45 => ?_) (fun h45 => ?_)
      · skip
        refine r_iconst (pc := 52) dX12_isName_52 ?_
        refine r_istore (pc := 53) dX12_isName_53 (by decide) ?_
        refine r_iconst (pc := 55) dX12_isName_55 ?_
        refine r_istore (pc := 56) dX12_isName_56 (by decide) ?_
        refine out 0 0 (Or.inl rfl) (by decide) (Or.inr rfl) ?_
        rw [if_neg]
        unfold nmB
        rw [decide_eq_true_eq]
        exact fun q => by first | exact h36 (ke1.mpr q.1) | (have := q.2.1; omega)
      · skip
        refine r_iconst (pc := 48) dX12_isName_48 ?_
        refine r_goto (pc := 49) 53 dX12_isName_49 (by decide) ?_
        refine r_istore (pc := 53) dX12_isName_53 (by decide) ?_
        refine r_iconst (pc := 55) dX12_isName_55 ?_
        refine r_istore (pc := 56) dX12_isName_56 (by decide) ?_
        exact loop z 0 0 (by omega) rfl (ke1.mp h36) (by omega) (fun j hj => absurd hj (by omega))
  refine r_iload (pc := 0) dX12_isName_0 rfl ?_
  refine r_if_ne (pc := 2) 9 dX12_isName_2 (by decide) (by omega) (fun h2 => ?_) (fun h2 => ?_)
  · skip
    refine r_iload (pc := 9) dX12_isName_9 rfl ?_
    refine r_if_ne (pc := 11) 18 dX12_isName_11 (by decide) (by omega) (fun h11 => ?_) (fun h11 => ?_)
    · skip
      refine r_iload (pc := 18) dX12_isName_18 rfl ?_
      refine r_if_ne (pc := 20) 27 dX12_isName_20 (by decide) (by omega) (fun h20 => ?_) (fun h20 => ?_)
      · skip
        refine r_bipush (pc := 27) dX12_isName_27 (by decide) ?_
        exact head _ (by rw [hzd]; first | rw [if_pos (by omega)]; rfl | rw [if_neg (by omega), if_pos (by omega)]; rfl | rw [if_neg (by omega), if_neg (by omega), if_pos (by omega)]; rfl | rw [if_neg (by omega), if_neg (by omega), if_neg (by omega)]; rfl)
      · skip
        refine r_iconst (pc := 23) dX12_isName_23 ?_
        refine r_goto (pc := 24) 29 dX12_isName_24 (by decide) ?_
        exact head _ (by rw [hzd]; first | rw [if_pos (by omega)]; rfl | rw [if_neg (by omega), if_pos (by omega)]; rfl | rw [if_neg (by omega), if_neg (by omega), if_pos (by omega)]; rfl | rw [if_neg (by omega), if_neg (by omega), if_neg (by omega)]; rfl)
    · skip
      refine r_iconst (pc := 14) dX12_isName_14 ?_
      refine r_goto (pc := 15) 29 dX12_isName_15 (by decide) ?_
      exact head _ (by rw [hzd]; first | rw [if_pos (by omega)]; rfl | rw [if_neg (by omega), if_pos (by omega)]; rfl | rw [if_neg (by omega), if_neg (by omega), if_pos (by omega)]; rfl | rw [if_neg (by omega), if_neg (by omega), if_neg (by omega)]; rfl)
  · skip
    refine r_iconst (pc := 5) dX12_isName_5 ?_
    refine r_goto (pc := 6) 29 dX12_isName_6 (by decide) ?_
    exact head _ (by rw [hzd]; first | rw [if_pos (by omega)]; rfl | rw [if_neg (by omega), if_pos (by omega)]; rfl | rw [if_neg (by omega), if_neg (by omega), if_pos (by omega)]; rfl | rw [if_neg (by omega), if_neg (by omega), if_neg (by omega)]; rfl)
def QTk (m n k : Nat) (T : Nat × Nat × Int) (v lo hi : Int) (I : MI) (P : MP) (L : ML) : Int → MI → MP → ML → Prop := fun r I1 P1 L1 => ((T.2.2 = 3 ∧ lo ≤ v ∧ v ≤ hi ∧ r = 1 ∧ ∃ W, I1 = uR (uR I (m + 11) (up (I (m + 11)) k v)) m W ∧ TSf n (tok (I (m + 9)) n T.2.1) (tokV (I (m + 9)) n T.2.1) W) ∨ (¬ (T.2.2 = 3 ∧ lo ≤ v ∧ v ≤ hi) ∧ r = 0 ∧ I1 = I)) ∧ P = P1 ∧ L = L1
theorem sX12_takes {k : Nat} {x lo hi : Int} (hm : RfL G C P m := by assumption) (hT : TSf n T v (I m) := by assumption) (h150 : n ≤ 150 := by omega) (hbb : ∀ j, j < 150 → 0 ≤ I (m + 9) j ∧ I (m + 9) j ≤ 127 := by assumption) (hTn : T.1 ≤ T.2.1 ∧ T.2.1 ≤ n := by omega) (hso : 0 ≤ T.2.2 ∧ T.2.2 ≤ 4 := by omega) (hv : T.2.2 = 3 → 0 ≤ v ∧ v ≤ 9999 := by assumption) (hx : x = (k : Int) := by first | rfl | omega) (hk : k < 3 := by omega) (hlo : iR lo := by first | decide | omega) (hhi : iR hi := by first | decide | omega) : SX12_takes G [.ref m, .int (zI x), .int (zI lo), .int (zI hi)] C I P L (NI C (QTk m n k T v lo hi I P L)) := by
  obtain ⟨hBm, hKm, hK1, hK2, hK3, hK4, hK5, hK6, hK7, hK8, hK9, hK10, hK11, hP0, hP1, hP2, hP3, hP6, hP7, hP8, hP9, hP10, hP16, hP17⟩ := id hm
  obtain ⟨h11, h12, h13, h14, h15⟩ := id hT
  obtain ⟨k0, k4, ke0, ke1, ke2, ke3⟩ := kM_in hso
  have e9 : (uR I (m + 11) (up (I (m + 11)) k v)) (m + 9) = I (m + 9) := uR_n I _ (by omega)
  have em : (uR I (m + 11) (up (I (m + 11)) k v)) m = I m := uR_n I _ (by omega)
  have hT2 : TSf n T v ((uR I (m + 11) (up (I (m + 11)) k v)) m) := by rw [em]; exact hT
  have hbb2 : ∀ j, j < 150 → 0 ≤ (uR I (m + 11) (up (I (m + 11)) k v)) (m + 9) j ∧ (uR I (m + 11) (up (I (m + 11)) k v)) (m + 9) j ≤ 127 := by rw [e9]; exact hbb
  refine en_I (by decide +kernel) (Nat.le_of_ble_eq_true rfl) ?_
  change Wd _ _ _ _ _ _ _ _ 0 [some _, some _, some _, some _] [] _ _ _ _
  refine r_aload_n (pc := 0) dX12_takes_0 rfl ?_
  refine r_getI (pc := 1) dX12_takes_1 frX12_257 (by assumption) ?_
  rw [h14]
  refine r_iconst (pc := 4) dX12_takes_4 ?_
  refine r_icmp_ne (pc := 5) 23 dX12_takes_5 (by decide) (by first | omega | (split <;> decide)) (by first | omega | (split <;> decide)) (fun h5 => ?_) (fun h5 => ?_)
  · skip
    refine r_iconst (pc := 23) dX12_takes_23 ?_
    refine t_iret (pc := 24) dX12_takes_24 rfl rfl ?_
    refine ⟨Or.inr ⟨?_, rfl, rfl⟩, rfl, rfl⟩
    first
      | exact fun q => h5 (ke2.mpr q.1)
      | exact fun q => (wf h20) q.2
  · skip
    have h3 : T.2.2 = 3 := ke2.mp h5
    have e15 := h15 h3
    have hv3 := hv h3
    refine r_aload_n (pc := 8) dX12_takes_8 rfl ?_
    refine r_getI (pc := 9) dX12_takes_9 frX12_260 (by assumption) ?_
    rw [e15]
    refine r_i2l (pc := 12) dX12_takes_12 (by first | omega | (split <;> decide)) ?_
    refine r_iload_n (pc := 13) dX12_takes_13 rfl ?_
    refine r_i2l (pc := 14) dX12_takes_14 (by first | omega | (split <;> decide)) ?_
    refine r_iload_n (pc := 15) dX12_takes_15 rfl ?_
    refine r_i2l (pc := 16) dX12_takes_16 (by first | omega | (split <;> decide)) ?_
    refine i_S3ix (pc := 17) okX12_in staX12_in q1098 dX12_takes_17 (by decide) (Nat.le_of_ble_eq_true rfl) (sX12_in) ?_
    refine r_if_ne (pc := 20) 25 dX12_takes_20 (by decide) (by first | omega | (split <;> decide)) (fun h20 => ?_) (fun h20 => ?_)
    · skip
      refine r_aload_n (pc := 25) dX12_takes_25 rfl ?_
      refine r_getA (pc := 26) dX12_takes_26 frX12_45 (by assumption) (by assumption) ?_
      refine r_iload_n (pc := 29) dX12_takes_29 rfl ?_
      refine r_aload_n (pc := 30) dX12_takes_30 rfl ?_
      refine r_getI (pc := 31) dX12_takes_31 frX12_260 (by assumption) ?_
      rw [e15]
      refine r_iast (j := k) (pc := 34) dX12_takes_34 (by assumption) (by first | omega | (split <;> decide)) (by omega) (by first | omega | (split <;> decide)) (by omega) ?_
      try simp only [u2_I, uR_uR, uR_app, eq_self, Nat.reduceEqDiff, Nat.add_eq_left, Nat.left_eq_add, ↓reduceIte]
      refine r_aload_n (pc := 35) dX12_takes_35 rfl ?_
      refine i_V0vg (pc := 36) okX12_goOn inX12_goOn selX12_goOn q1418 dX12_takes_36 (by assumption) rfl (by decide) (Nat.le_of_ble_eq_true rfl) (sX12_goOn (n := n) (T := T) (v := v) (hT := hT2) (hbb := hbb2)) (fun I3 P3 L3 hq3 => ?_)
      obtain ⟨⟨W, hW, w1, w2, w3, w4, w5, -⟩, hP3, hL3⟩ := hq3
      rw [e9] at w2 w3 w4 w5
      try simp only [u2_I, uR_uR, uR_app, eq_self, Nat.reduceEqDiff, Nat.add_eq_left, Nat.left_eq_add, ↓reduceIte]
      refine r_iconst (pc := 39) dX12_takes_39 ?_
      refine t_iret (pc := 40) dX12_takes_40 rfl rfl ?_
      refine ⟨Or.inl ⟨h3, (wt h20).1, (wt h20).2, rfl, W, hW, w1, w2, w3, w4, w5⟩, hP3, hL3⟩
    · skip
      refine r_iconst (pc := 23) dX12_takes_23 ?_
      refine t_iret (pc := 24) dX12_takes_24 rfl rfl ?_
      refine ⟨Or.inr ⟨?_, rfl, rfl⟩, rfl, rfl⟩
      first
        | exact fun q => h5 (ke2.mpr q.1)
        | exact fun q => (wf h20) q.2
theorem sX12_lastFamily (hm : RfL G C P m := by assumption) : SX12_lastFamily G [.ref m] C I P L (NI C (XI (I (m + 10) 6 - 1) I P L)) := by
  obtain ⟨hBm, hKm, hK1, hK2, hK3, hK4, hK5, hK6, hK7, hK8, hK9, hK10, hK11, hP0, hP1, hP2, hP3, hP6, hP7, hP8, hP9, hP10, hP16, hP17⟩ := id hm
  refine en_I (by decide +kernel) (Nat.le_of_ble_eq_true rfl) ?_
  change Wd _ _ _ _ _ _ _ _ 0 [some _] [] _ _ _ _
  refine r_aload_n (pc := 0) dX12_lastFamily_0 rfl ?_
  refine r_getA (pc := 1) dX12_lastFamily_1 frX12_42 (by assumption) (by assumption) ?_
  refine r_bipush (pc := 4) dX12_lastFamily_4 (by decide) ?_
  refine r_iald (j := 6) (pc := 6) dX12_lastFamily_6 (by assumption) rfl (by omega) (by omega) ?_
  refine r_iconst (pc := 7) dX12_lastFamily_7 ?_
  refine r_isub (pc := 8) dX12_lastFamily_8 ?_
  refine t_iret (pc := 9) dX12_lastFamily_9 rfl rfl ?_
  exact ⟨rfl, rfl, rfl, rfl⟩
end REF12

