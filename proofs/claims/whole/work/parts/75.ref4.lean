/-! the reference: years that might be -/
def hiE (R R' : Nat → Int) : Prop := ∀ k, 33 ≤ k → R' k = R k
theorem hiE.rf (R : Nat → Int) : hiE R R := fun _ _ => rfl
theorem hiE.tr {A B C : Nat → Int} (h : hiE A B) (h2 : hiE B C) : hiE A C := fun k hk => (h2 k hk).trans (h k hk)
theorem hiE.up {A B : Nat → Int} {j : Nat} {v : Int} (h : hiE A B) (hj : j < 33) : hiE A (up B j v) := fun k hk => by rw [up_n _ _ (by omega)]; exact h k hk
theorem teach_hi (F : Nat → Int) (f : Nat) (l : Int) : ∀ o, o ≤ 6 → hiE F (teachF F f l o) := by
  intro o
  induction o with
  | zero => intro _; exact hiE.rf F
  | succ o ih =>
    intro ho
    unfold teachF
    split
    · exact ih (by omega)
    · exact (ih (by omega)).up (by omega)
theorem work1_hi (F : Nat → Int) {f : Nat} (hs : sizeF F ≤ 6) : hiE F (work1 F f) := by
  unfold work1
  split
  · exact hiE.rf F
  split
  · exact teach_hi F f _ _ hs
  split
  · exact (hiE.rf F).up (by omega)
  split
  · exact (hiE.rf F).up (by omega)
  split
  · exact (hiE.rf F).up (by omega)
  · exact hiE.rf F
theorem work_hi (F : Nat → Int) (hs : sizeF F ≤ 6) : ∀ n, hiE F (workF F n) := by
  intro n
  induction n with
  | zero => exact hiE.rf F
  | succ n ih => exact ih.tr (work1_hi _ (by rw [sz_same (F := F) (fx_work _ (by omega) (by omega) _)]; exact hs))
theorem warm_hi (F : Nat → Int) : ∀ n, n ≤ 6 → hiE F (warmF F n) := by
  intro n
  induction n with
  | zero => intro _; exact hiE.rf F
  | succ n ih =>
    intro hn
    refine (ih (by omega)).tr ?_
    show hiE _ (warm1 _ n)
    unfold warm1
    split
    · exact (hiE.rf _).up (by omega)
    · exact ((hiE.rf _).up (by omega)).up (by omega)
theorem lose_hi (F : Nat → Int) : hiE F (loseF F) := by
  unfold loseF
  split
  · exact (((hiE.rf _).up (by omega)).up (by omega)).up (by omega)
  · exact ((hiE.rf _).up (by omega)).up (by omega)
theorem forg_hiE (F : Nat → Int) : ∀ n, n ≤ 6 → hiE F (forgF F n) := by
  intro n
  induction n with
  | zero => intro _; exact hiE.rf F
  | succ n ih => intro hn; exact (ih (by omega)).up (by omega)
theorem rem_hi (F : Nat → Int) : ∀ n, n ≤ 6 → hiE F (remF F n) := by
  intro n
  induction n with
  | zero => intro _; exact hiE.rf F
  | succ n ih => intro hn; exact (ih (by omega)).up (by omega)
theorem jobs_hi (F : Nat → Int) (j : Int) : ∀ n, n ≤ 6 → hiE F (jobsF F j n) := by
  intro n
  induction n with
  | zero => intro _; exact hiE.rf F
  | succ n ih => intro hn; exact (ih (by omega)).up (by omega)
theorem tof_hiE (F : Nat → Int) (s : Nat) : ∀ n, n ≤ 6 → hiE F (teachOf F s n) := by
  intro n
  induction n with
  | zero => intro _; exact hiE.rf F
  | succ n ih => intro hn; exact (ih (by omega)).up (by omega)
theorem go_hi (F : Nat → Int) (b : Bool) (hs : sizeF F ≤ 6) : hiE F (goF F b) := by
  have hp : hiE F (preF F b) := by
    unfold preF
    split
    · exact ((((hiE.rf _).up (by omega)).up (by omega)).up (by omega)).up (by omega)
    · exact work_hi F hs _
  have hz : sizeF (feedF (preF F b) (noonF F (F 1))) ≤ 6 := by rw [sz_feed, sz_pre]; exact hs
  have hq : hiE F (feedF (preF F b) (noonF F (F 1))) := hp.up (by omega)
  unfold goF
  refine hiE.up (hiE.up (hq.tr ?_) (by omega)) (by omega)
  unfold postF
  split
  · exact rem_hi _ _ hz
  · exact (warm_hi _ _ hz).tr ((lose_hi _).tr (forg_hiE _ _ hz))
theorem run_hi (F : Nat → Int) (hs : sizeF F ≤ 6) : ∀ n, hiE F (runF F n) := by
  intro n
  induction n with
  | zero => exact hiE.rf F
  | succ n ih => exact ih.tr (go_hi _ _ (by rw [sz_run]; exact hs))
theorem FI_run {F : Nat → Int} {Y : Int} (h : FI F Y) : ∀ n : Nat, FI (runF F n) (Y + n) := by
  intro n
  induction n with
  | zero => show FI F (Y + ((0 : Nat) : Int)); simpa using h
  | succ n ih =>
    have := FI_go ih false
    rw [show Y + ((n + 1 : Nat) : Int) = Y + n + 1 by omega]
    exact this
def mix33 (A B : Nat → Int) : Nat → Int := fun k => if k < 33 then A k else B k
theorem mix33_back {N W R : Nat → Int} (hW : ∀ k, k < 33 → W k = N k) (hR : hiE N R) : mix33 W R = N := by
  funext k
  unfold mix33
  by_cases h : k < 33
  · rw [if_pos h]; exact hW k h
  · rw [if_neg h]; exact hR k (by omega)
section REF4
variable {G : WG} {C : CF} {I : MI} {P : MP} {L : ML} {m : Nat} {R : Nat → Int} {Y : Int}
theorem sX12_start (hm : RfL G C P m := by assumption) : SX12_start G [.ref m] C I P L (NV C (XV (uR I (m + 5) (mix33 (I (m + 1)) (I (m + 5)))) P L)) := by
  obtain ⟨hBm, hKm, hK1, hK2, hK3, hK4, hK5, hK6, hK7, hK8, hK9, hK10, hK11, hP0, hP1, hP2, hP3, hP6, hP7, hP8, hP9, hP10, hP16, hP17⟩ := id hm
  refine en_V (by decide +kernel) (Nat.le_of_ble_eq_true rfl) ?_
  change Wd _ _ _ _ _ _ _ _ 0 [some _, none] [] _ _ _ _
  have loop : ∀ (d f : Nat) (i : Int) (J : MI), f + d = 33 → i = (f : Int) → J = uR I (m + 5) (fun k => if k < f then I (m + 1) k else I (m + 5) k) → Wd G yX12_start cX12_start 2 none 0 (C.2.1 + 0, C.2.2 + 0) (NV C (XV (uR I (m + 5) (mix33 (I (m + 1)) (I (m + 5)))) P L)) 2 [some (.ref m), some (.int (zI i))] [] C J P L := by
    intro d
    induction d using Nat.strongRecOn with
    | _ d ih =>
      intro f i J hd hi hJ
      subst hJ
      refine r_iload_n (pc := 2) dX12_start_2 rfl ?_
      refine r_bipush (pc := 3) dX12_start_3 (by decide) ?_
      refine r_icmp_ge (pc := 5) 26 dX12_start_5 (by decide) (by omega) (by omega) (fun h5 => ?_) (fun h5 => ?_)
      · skip
        refine t_vret (pc := 26) dX12_start_26 rfl ?_
        exact ⟨by rw [show f = 33 by omega]; rfl, rfl, rfl⟩
      · skip
        refine r_aload_n (pc := 8) dX12_start_8 rfl ?_
        refine r_getA (pc := 9) dX12_start_9 frX12_27 (by assumption) (by assumption) ?_
        refine r_iload_n (pc := 12) dX12_start_12 rfl ?_
        refine r_aload_n (pc := 13) dX12_start_13 rfl ?_
        refine r_getA (pc := 14) dX12_start_14 frX12_7 (by assumption) (by assumption) ?_
        refine r_iload_n (pc := 17) dX12_start_17 rfl ?_
        refine r_iald (j := f) (pc := 18) dX12_start_18 (by assumption) (by omega) (by omega) (by omega) ?_
        try simp only [u2_I, uR_uR, uR_app, eq_self, Nat.reduceEqDiff, Nat.add_eq_left, Nat.left_eq_add, ↓reduceIte]
        refine r_iast (j := f) (pc := 19) dX12_start_19 (by assumption) (by omega) (by omega) (by omega) (by omega) ?_
        try simp only [u2_I, uR_uR, uR_app, eq_self, Nat.reduceEqDiff, Nat.add_eq_left, Nat.left_eq_add, ↓reduceIte]
        refine r_iinc (pc := 20) dX12_start_20 rfl ?_
        refine r_goto (pc := 23) 2 dX12_start_23 (by decide) ?_
        refine ih (d - 1) (by omega) (f + 1) _ _ (by omega) (by omega) ?_
        congr 1
        funext k
        rw [up_app]
        by_cases h0 : k = f
        · rw [if_pos h0, if_pos (by omega), h0]
        · rw [if_neg h0]
          by_cases h1 : k < f
          · rw [if_pos h1, if_pos (by omega)]
          · rw [if_neg h1, if_neg (by omega)]
  refine r_iconst (pc := 0) dX12_start_0 ?_
  refine r_istore_n (pc := 1) dX12_start_1 (by decide) ?_
  exact loop 33 0 _ _ (by omega) rfl (uR_same I (m + 5)).symm
theorem sX12_back (hm : RfL G C P m := by assumption) : SX12_back G [.ref m] C I P L (NV C (XV (uR I (m + 1) (mix33 (I (m + 5)) (I (m + 1)))) P L)) := by
  obtain ⟨hBm, hKm, hK1, hK2, hK3, hK4, hK5, hK6, hK7, hK8, hK9, hK10, hK11, hP0, hP1, hP2, hP3, hP6, hP7, hP8, hP9, hP10, hP16, hP17⟩ := id hm
  refine en_V (by decide +kernel) (Nat.le_of_ble_eq_true rfl) ?_
  change Wd _ _ _ _ _ _ _ _ 0 [some _, none] [] _ _ _ _
  have loop : ∀ (d f : Nat) (i : Int) (J : MI), f + d = 33 → i = (f : Int) → J = uR I (m + 1) (fun k => if k < f then I (m + 5) k else I (m + 1) k) → Wd G yX12_back cX12_back 2 none 0 (C.2.1 + 0, C.2.2 + 0) (NV C (XV (uR I (m + 1) (mix33 (I (m + 5)) (I (m + 1)))) P L)) 2 [some (.ref m), some (.int (zI i))] [] C J P L := by
    intro d
    induction d using Nat.strongRecOn with
    | _ d ih =>
      intro f i J hd hi hJ
      subst hJ
      refine r_iload_n (pc := 2) dX12_back_2 rfl ?_
      refine r_bipush (pc := 3) dX12_back_3 (by decide) ?_
      refine r_icmp_ge (pc := 5) 26 dX12_back_5 (by decide) (by omega) (by omega) (fun h5 => ?_) (fun h5 => ?_)
      · skip
        refine t_vret (pc := 26) dX12_back_26 rfl ?_
        exact ⟨by rw [show f = 33 by omega]; rfl, rfl, rfl⟩
      · skip
        refine r_aload_n (pc := 8) dX12_back_8 rfl ?_
        refine r_getA (pc := 9) dX12_back_9 frX12_7 (by assumption) (by assumption) ?_
        refine r_iload_n (pc := 12) dX12_back_12 rfl ?_
        refine r_aload_n (pc := 13) dX12_back_13 rfl ?_
        refine r_getA (pc := 14) dX12_back_14 frX12_27 (by assumption) (by assumption) ?_
        refine r_iload_n (pc := 17) dX12_back_17 rfl ?_
        refine r_iald (j := f) (pc := 18) dX12_back_18 (by assumption) (by omega) (by omega) (by omega) ?_
        try simp only [u2_I, uR_uR, uR_app, eq_self, Nat.reduceEqDiff, Nat.add_eq_left, Nat.left_eq_add, ↓reduceIte]
        refine r_iast (j := f) (pc := 19) dX12_back_19 (by assumption) (by omega) (by omega) (by omega) (by omega) ?_
        try simp only [u2_I, uR_uR, uR_app, eq_self, Nat.reduceEqDiff, Nat.add_eq_left, Nat.left_eq_add, ↓reduceIte]
        refine r_iinc (pc := 20) dX12_back_20 rfl ?_
        refine r_goto (pc := 23) 2 dX12_back_23 (by decide) ?_
        refine ih (d - 1) (by omega) (f + 1) _ _ (by omega) (by omega) ?_
        congr 1
        funext k
        rw [up_app]
        by_cases h0 : k = f
        · rw [if_pos h0, if_pos (by omega), h0]
        · rw [if_neg h0]
          by_cases h1 : k < f
          · rw [if_pos h1, if_pos (by omega)]
          · rw [if_neg h1, if_neg (by omega)]
  refine r_iconst (pc := 0) dX12_back_0 ?_
  refine r_istore_n (pc := 1) dX12_back_1 (by decide) ?_
  exact loop 33 0 _ _ (by omega) rfl (uR_same I (m + 1)).symm
theorem sX12_power {b x : Int} {n : Nat} (hx : x = (n : Int) := by first | rfl | omega) (hn : n ≤ 1000 := by omega) : SX12_power G [.int (zI b), .int (zI x)] C I P L (NI C (XI (b ^ n) I P L)) := by
  refine en_I (by decide +kernel) (Nat.le_of_ble_eq_true rfl) ?_
  change Wd _ _ _ _ _ _ _ _ 0 [some _, some _, none, none] [] _ _ _ _
  have loop : ∀ (d f : Nat) (i a : Int), f + d = n → i = (f : Int) → a = b ^ f → Wd G yX12_power cX12_power 4 (some .int) 0 (C.2.1 + 0, C.2.2 + 0) (NI C (XI (b ^ n) I P L)) 4 [some (.int (zI b)), some (.int (zI x)), some (.int (zI a)), some (.int (zI i))] [] C I P L := by
    intro d
    induction d using Nat.strongRecOn with
    | _ d ih =>
      intro f i a hd hi ha
      refine r_iload_n (pc := 4) dX12_power_4 rfl ?_
      refine r_iload_n (pc := 5) dX12_power_5 rfl ?_
      refine r_icmp_ge (pc := 6) 19 dX12_power_6 (by decide) (by omega) (by omega) (fun h6 => ?_) (fun h6 => ?_)
      · skip
        refine r_iload_n (pc := 19) dX12_power_19 rfl ?_
        refine t_iret (pc := 20) dX12_power_20 rfl rfl ?_
        exact ⟨by rw [ha, show f = n by omega], rfl, rfl, rfl⟩
      · skip
        refine r_iload_n (pc := 9) dX12_power_9 rfl ?_
        refine r_iload_n (pc := 10) dX12_power_10 rfl ?_
        refine r_imul (pc := 11) dX12_power_11 ?_
        refine r_istore_n (pc := 12) dX12_power_12 (by decide) ?_
        refine r_iinc (pc := 13) dX12_power_13 rfl ?_
        refine r_goto (pc := 16) 4 dX12_power_16 (by decide) ?_
        exact ih (d - 1) (by omega) (f + 1) _ _ (by omega) (by omega) (by rw [Int.pow_succ, ha])
  refine r_iconst (pc := 0) dX12_power_0 ?_
  refine r_istore_n (pc := 1) dX12_power_1 (by decide) ?_
  refine r_iconst (pc := 2) dX12_power_2 ?_
  refine r_istore_n (pc := 3) dX12_power_3 (by decide) ?_
  exact loop n 0 _ _ (by omega) rfl (Int.pow_zero b).symm
theorem sX12_ways {b x : Int} {n : Nat} (hb : iR b := by omega) (hx : x = (n : Int) := by first | rfl | omega) (hn : n ≤ 1000 := by omega) : SX12_ways G [.int (zI b), .int (zI x)] C I P L (NL C (XI (b ^ n) I P L)) := by
  refine en_L (by decide +kernel) (Nat.le_of_ble_eq_true rfl) ?_
  change Wd _ _ _ _ _ _ _ _ 0 [some _, some _, none, none, none] [] _ _ _ _
  have loop : ∀ (d f : Nat) (i a : Int), f + d = n → i = (f : Int) → a = b ^ f → Wd G yX12_ways cX12_ways 5 (some .long) 0 (C.2.1 + 0, C.2.2 + 0) (NL C (XI (b ^ n) I P L)) 5 [some (.int (zI b)), some (.int (zI x)), some (.long (zL a)), none, some (.int (zI i))] [] C I P L := by
    intro d
    induction d using Nat.strongRecOn with
    | _ d ih =>
      intro f i a hd hi ha
      refine r_iload (pc := 5) dX12_ways_5 rfl ?_
      refine r_iload_n (pc := 7) dX12_ways_7 rfl ?_
      refine r_icmp_ge (pc := 8) 22 dX12_ways_8 (by decide) (by omega) (by omega) (fun h8 => ?_) (fun h8 => ?_)
      · skip
        refine r_lload_n (pc := 22) dX12_ways_22 rfl ?_
        refine t_lret (pc := 23) dX12_ways_23 rfl ?_
        exact ⟨by rw [ha, show f = n by omega], rfl, rfl, rfl⟩
      · skip
        refine r_lload_n (pc := 11) dX12_ways_11 rfl ?_
        refine r_iload_n (pc := 12) dX12_ways_12 rfl ?_
        refine r_i2l (pc := 13) dX12_ways_13 (by omega) ?_
        refine r_lmul (pc := 14) dX12_ways_14 ?_
        refine r_lstore_n (pc := 15) dX12_ways_15 (by decide) ?_
        refine r_iinc (pc := 16) dX12_ways_16 rfl ?_
        refine r_goto (pc := 19) 5 dX12_ways_19 (by decide) ?_
        exact ih (d - 1) (by omega) (f + 1) _ _ (by omega) (by omega) (by rw [Int.pow_succ, ha])
  refine r_lconst (v := 1) (pc := 0) dX12_ways_0 (by decide) ?_
  refine r_lstore_n (pc := 1) dX12_ways_1 (by decide) ?_
  refine r_iconst (pc := 2) dX12_ways_2 ?_
  refine r_istore (pc := 3) dX12_ways_3 (by decide) ?_
  exact loop n 0 _ _ (by omega) rfl (Int.pow_zero b).symm
theorem sX12_allDo {j : Int} (hm : RfL G C P m := by assumption) (hR : I (m + 1) = R := by first | exact uR_s _ _ _ | rfl) (hF : FI R Y := by assumption) : SX12_allDo G [.ref m, .int (zI j)] C I P L (NV C (XV (uR I (m + 1) (jobsF R j (sizeF R))) P L)) := by
  obtain ⟨hBm, hKm, hK1, hK2, hK3, hK4, hK5, hK6, hK7, hK8, hK9, hK10, hK11, hP0, hP1, hP2, hP3, hP6, hP7, hP8, hP9, hP10, hP16, hP17⟩ := id hm
  subst hR
  obtain ⟨hs6, hsz⟩ := sizeF_le hF
  refine en_V (by decide +kernel) (Nat.le_of_ble_eq_true rfl) ?_
  change Wd _ _ _ _ _ _ _ _ 0 [some _, some _, none] [] _ _ _ _
  have loop : ∀ (d o : Nat) (i : Int) (J : MI), o + d = sizeF (I (m + 1)) → i = (o : Int) → J = uR I (m + 1) (jobsF (I (m + 1)) j o) → Wd G yX12_allDo cX12_allDo 3 none 1 (C.2.1 + 0, C.2.2 + 0) (NV C (XV (uR I (m + 1) (jobsF (I (m + 1)) j (sizeF (I (m + 1))))) P L)) 2 [some (.ref m), some (.int (zI j)), some (.int (zI i))] [] C J P L := by
    intro d
    induction d using Nat.strongRecOn with
    | _ d ih =>
      intro o i J hd hi hJ
      subst hJ
      have h6 : jobsF (I (m + 1)) j o 6 = I (m + 1) 6 := fx_jobs _ _ (by omega) _
      refine r_iload_n (pc := 2) dX12_allDo_2 rfl ?_
      refine r_aload_n (pc := 3) dX12_allDo_3 rfl ?_
      refine i_V0ix (pc := 4) okX12_families inX12_families selX12_families q1118 dX12_allDo_4 (by assumption) rfl (by decide) (Nat.le_of_ble_eq_true rfl) (sX12_families) ?_
      try simp only [u2_I, uR_uR, uR_app, eq_self, Nat.reduceEqDiff, Nat.add_eq_left, Nat.left_eq_add, ↓reduceIte]
      refine r_icmp_ge (pc := 7) 30 dX12_allDo_7 (by decide) (by omega) (by omega) (fun h7 => ?_) (fun h7 => ?_)
      · skip
        refine t_vret (pc := 30) dX12_allDo_30 rfl ?_
        exact ⟨by rw [show sizeF (I (m + 1)) = o by omega], rfl, rfl⟩
      · skip
        refine r_aload_n (pc := 10) dX12_allDo_10 rfl ?_
        refine r_getA (pc := 11) dX12_allDo_11 frX12_7 (by assumption) (by assumption) ?_
        refine r_bipush (pc := 14) dX12_allDo_14 (by decide) ?_
        refine r_iconst (pc := 16) dX12_allDo_16 ?_
        refine r_iload_n (pc := 17) dX12_allDo_17 rfl ?_
        refine r_imul (pc := 18) dX12_allDo_18 ?_
        refine r_iadd (pc := 19) dX12_allDo_19 ?_
        refine r_iconst (pc := 20) dX12_allDo_20 ?_
        refine r_iadd (pc := 21) dX12_allDo_21 ?_
        refine r_iload_n (pc := 22) dX12_allDo_22 rfl ?_
        refine r_iast (j := 10 + 4 * o) (pc := 23) dX12_allDo_23 (by assumption) (by omega) (by omega) (by omega) (by omega) ?_
        try simp only [u2_I, uR_uR, uR_app, eq_self, Nat.reduceEqDiff, Nat.add_eq_left, Nat.left_eq_add, ↓reduceIte]
        refine r_iinc (pc := 24) dX12_allDo_24 rfl ?_
        refine r_goto (pc := 27) 2 dX12_allDo_27 (by decide) ?_
        exact ih (d - 1) (by omega) (o + 1) _ _ (by omega) (by omega) rfl
  refine r_iconst (pc := 0) dX12_allDo_0 ?_
  refine r_istore_n (pc := 1) dX12_allDo_1 (by decide) ?_
  exact loop (sizeF (I (m + 1))) 0 _ _ (by omega) rfl (uR_same I (m + 1)).symm
def QW (m : Nat) (e : Int) (I : MI) (R : Nat → Int) (P : MP) (L : ML) : Int → MI → MP → ML → Prop := fun r I1 P1 L1 => r = e ∧ (∃ R', hiE R R' ∧ I1 = uR I (m + 1) R') ∧ P = P1 ∧ L = L1
theorem sX12_firstWant {n : Nat} {x : Int} (hm : RfL G C P m := by assumption) (hR : I (m + 1) = R := by first | exact uR_s _ _ _ | rfl) (hF : FI R Y := by assumption) (hY : Y ≤ 900000 := by omega) (hx : x = (n : Int) := by first | rfl | omega) (hn : n ≤ 1000 := by omega) : SX12_firstWant G [.ref m, .int (zI x)] C I P L (NI C (QW m (firstF R n) I R P L)) := by
  obtain ⟨hBm, hKm, hK1, hK2, hK3, hK4, hK5, hK6, hK7, hK8, hK9, hK10, hK11, hP0, hP1, hP2, hP3, hP6, hP7, hP8, hP9, hP10, hP16, hP17⟩ := id hm
  subst hR
  obtain ⟨hs6, hsz⟩ := sizeF_le hF
  refine en_I (by decide +kernel) (Nat.le_of_ble_eq_true rfl) ?_
  change Wd _ _ _ _ _ _ _ _ 0 [some _, some _, none] [] _ _ _ _
  have loop : ∀ (d o : Nat) (i : Int) (J : MI), o + d = n → i = (o : Int) → (∀ k, k < o → wants (I (m + 1)) k = false) → J = uR I (m + 1) (runF (I (m + 1)) o) → Wd G yX12_firstWant cX12_firstWant 3 (some .int) 5 (C.2.1 + 0, C.2.2 + 0) (NI C (QW m (firstF (I (m + 1)) n) I (I (m + 1)) P L)) 2 [some (.ref m), some (.int (zI x)), some (.int (zI i))] [] C J P L := by
    intro d
    induction d using Nat.strongRecOn with
    | _ d ih =>
      intro o i J hd hi hk hJ
      subst hJ
      have hFI := FI_run hF o
      have hwi := wantF_in hFI false
      have hst : goF (runF (I (m + 1)) o) false = runF (I (m + 1)) (o + 1) := rfl
      have hwo : wants (I (m + 1)) o = decide (0 < wantF (runF (I (m + 1)) o) false) := rfl
      refine r_iload_n (pc := 2) dX12_firstWant_2 rfl ?_
      refine r_iload_n (pc := 3) dX12_firstWant_3 rfl ?_
      refine r_icmp_ge (pc := 4) 23 dX12_firstWant_4 (by decide) (by omega) (by omega) (fun h4 => ?_) (fun h4 => ?_)
      · skip
        refine r_iconst (pc := 23) dX12_firstWant_23 ?_
        refine t_iret (pc := 24) dX12_firstWant_24 rfl rfl ?_
        exact ⟨(fst_no n (fun k hk2 => hk k (by omega))).symm, ⟨_, run_hi _ hs6 _, rfl⟩, rfl, rfl⟩
      · skip
        refine r_aload_n (pc := 7) dX12_firstWant_7 rfl ?_
        refine r_iconst (pc := 8) dX12_firstWant_8 ?_
        refine i_V1ix (pc := 9) okX12_goYear inX12_goYear selX12_goYear q1149 dX12_firstWant_9 (by assumption) rfl (by decide) (Nat.le_of_ble_eq_true rfl) (sX12_goYear (bad := false) (Y := Y + o)) ?_
        try simp only [u2_I, uR_uR, uR_app, eq_self, Nat.reduceEqDiff, Nat.add_eq_left, Nat.left_eq_add, ↓reduceIte]
        rw [hst]
        refine r_if_le (pc := 12) 17 dX12_firstWant_12 (by decide) (by omega) (fun h12 => ?_) (fun h12 => ?_)
        · skip
          refine r_iinc (pc := 17) dX12_firstWant_17 rfl ?_
          refine r_goto (pc := 20) 2 dX12_firstWant_20 (by decide) ?_
          refine ih (d - 1) (by omega) (o + 1) _ _ (by omega) (by omega) (fun k hk2 => ?_) rfl
          by_cases hko : k = o
          · rw [hko, hwo]; exact decide_eq_false (by omega)
          · exact hk k (by omega)
        · skip
          refine r_iload_n (pc := 15) dX12_firstWant_15 rfl ?_
          refine t_iret (pc := 16) dX12_firstWant_16 rfl rfl ?_
          refine ⟨?_, ⟨_, run_hi _ hs6 _, rfl⟩, rfl, rfl⟩
          rw [hi]
          exact (fst_at (by rw [hwo]; exact decide_eq_true (by omega)) hk n (by omega)).symm
  refine r_iconst (pc := 0) dX12_firstWant_0 ?_
  refine r_istore_n (pc := 1) dX12_firstWant_1 (by decide) ?_
  exact loop n 0 _ _ (by omega) rfl (fun k hk => absurd hk (by omega)) (uR_same I (m + 1)).symm
theorem noons_st (F : Nat → Int) (n : Nat) : noonsF F (n + 1) = noonsF F n + (if noonF F (F 1 + n) = true then 1 else 0) := rfl
theorem sX12_noons {n : Nat} {x : Int} (hm : RfL G C P m := by assumption) (hR : I (m + 1) = R := by first | exact uR_s _ _ _ | rfl) (hF : FI R Y := by assumption) (hY : Y ≤ 1000000 := by omega) (hx : x = (n : Int) := by first | rfl | omega) (hn : n ≤ 1000 := by omega) : SX12_noons G [.ref m, .int (zI x)] C I P L (NI C (XI (noonsF R n) I P L)) := by
  obtain ⟨hBm, hKm, hK1, hK2, hK3, hK4, hK5, hK6, hK7, hK8, hK9, hK10, hK11, hP0, hP1, hP2, hP3, hP6, hP7, hP8, hP9, hP10, hP16, hP17⟩ := id hm
  subst hR
  have h0 := hF.1
  have h1 := hF.2.1
  have nb : ∀ b : Bool, iR (if b = true then 1 else 0) := fun b => by cases b <;> decide
  refine en_I (by decide +kernel) (Nat.le_of_ble_eq_true rfl) ?_
  change Wd _ _ _ _ _ _ _ _ 0 [some _, some _, none, none] [] _ _ _ _
  have loop : ∀ (d o : Nat) (i a : Int), o + d = n → i = (o : Int) → a = noonsF (I (m + 1)) o → Wd G yX12_noons cX12_noons 4 (some .int) 1 (C.2.1 + 0, C.2.2 + 0) (NI C (XI (noonsF (I (m + 1)) n) I P L)) 4 [some (.ref m), some (.int (zI x)), some (.int (zI a)), some (.int (zI i))] [] C I P L := by
    intro d
    induction d using Nat.strongRecOn with
    | _ d ih =>
      intro o i a hd hi ha
      refine r_iload_n (pc := 4) dX12_noons_4 rfl ?_
      refine r_iload_n (pc := 5) dX12_noons_5 rfl ?_
      refine r_icmp_ge (pc := 6) 38 dX12_noons_6 (by decide) (by first | omega | exact nb _) (by first | omega | exact nb _) (fun h6 => ?_) (fun h6 => ?_)
      · skip
        refine r_iload_n (pc := 38) dX12_noons_38 rfl ?_
        refine t_iret (pc := 39) dX12_noons_39 rfl rfl ?_
        exact ⟨by rw [ha, show n = o by omega], rfl, rfl, rfl⟩
      · skip
        refine r_iload_n (pc := 9) dX12_noons_9 rfl ?_
        refine r_aload_n (pc := 10) dX12_noons_10 rfl ?_
        refine r_aload_n (pc := 11) dX12_noons_11 rfl ?_
        refine r_getA (pc := 12) dX12_noons_12 frX12_7 (by assumption) (by assumption) ?_
        refine r_iconst (pc := 15) dX12_noons_15 ?_
        refine r_iald (j := 1) (pc := 16) dX12_noons_16 (by assumption) rfl (by first | omega | exact nb _) (by omega) ?_
        refine r_iload_n (pc := 17) dX12_noons_17 rfl ?_
        refine r_iadd (pc := 18) dX12_noons_18 ?_
        rw [hi]
        refine i_V1ix (pc := 19) okX12_isNoon inX12_isNoon selX12_isNoon q1153 dX12_noons_19 (by assumption) rfl (by decide) (Nat.le_of_ble_eq_true rfl) (sX12_isNoon) ?_
        refine r_if_eq (pc := 22) 29 dX12_noons_22 (by decide) (by first | omega | exact nb _) (fun h22 => ?_) (fun h22 => ?_)
        · skip
          refine r_iconst (pc := 29) dX12_noons_29 ?_
          refine r_iadd (pc := 30) dX12_noons_30 ?_
          refine r_istore_n (pc := 31) dX12_noons_31 (by decide) ?_
          refine r_iinc (pc := 32) dX12_noons_32 rfl ?_
          refine r_goto (pc := 35) 4 dX12_noons_35 (by decide) ?_
          refine ih (d - 1) (by omega) (o + 1) _ _ (by omega) (by omega) ?_
          rw [noons_st, ha]
          congr 1
          revert h22; cases noonF (I (m + 1)) (I (m + 1) 1 + o) <;> simp
        · skip
          refine r_iconst (pc := 25) dX12_noons_25 ?_
          refine r_goto (pc := 26) 30 dX12_noons_26 (by decide) ?_
          refine r_iadd (pc := 30) dX12_noons_30 ?_
          refine r_istore_n (pc := 31) dX12_noons_31 (by decide) ?_
          refine r_iinc (pc := 32) dX12_noons_32 rfl ?_
          refine r_goto (pc := 35) 4 dX12_noons_35 (by decide) ?_
          refine ih (d - 1) (by omega) (o + 1) _ _ (by omega) (by omega) ?_
          rw [noons_st, ha]
          congr 1
          revert h22; cases noonF (I (m + 1)) (I (m + 1) 1 + o) <;> simp
  refine r_iconst (pc := 0) dX12_noons_0 ?_
  refine r_istore_n (pc := 1) dX12_noons_1 (by decide) ?_
  refine r_iconst (pc := 2) dX12_noons_2 ?_
  refine r_istore_n (pc := 3) dX12_noons_3 (by decide) ?_
  exact loop n 0 _ _ (by omega) rfl rfl
def fedR (s : Nat) : Nat → Nat → (Nat → Int) → Bool
  | 0, _, _ => true
  | n + 1, j, T => if noonF T (T 1) = true then (if wantF T (s.testBit j) = 0 then fedR s n (j + 1) (goF T (s.testBit j)) else false) else (if wantF T false = 0 then fedR s n j (goF T false) else false)
theorem sX12_isFed {n s : Nat} {x y : Int} (hm : RfL G C P m := by assumption) (hR : I (m + 1) = R := by first | exact uR_s _ _ _ | rfl) (hF : FI R Y := by assumption) (hY : Y ≤ 900000 := by omega) (hx : x = (n : Int) := by first | rfl | omega) (hn : n ≤ 1000 := by omega) (hy : y = (s : Int) := by first | rfl | omega) (hs : s < 1000 := by omega) (hno : noonsF R n ≤ 8 := by assumption) : SX12_isFed G [.ref m, .int (zI x), .int (zI y)] C I P L (NI C (QW m (if fedR s n 0 R = true then 1 else 0) I R P L)) := by
  obtain ⟨hBm, hKm, hK1, hK2, hK3, hK4, hK5, hK6, hK7, hK8, hK9, hK10, hK11, hP0, hP1, hP2, hP3, hP6, hP7, hP8, hP9, hP10, hP16, hP17⟩ := id hm
  subst hR
  obtain ⟨hs6, hsz⟩ := sizeF_le hF
  have nb : ∀ b : Bool, iR (if b = true then 1 else 0) := fun b => by cases b <;> decide
  have nb2 : ∀ b : Bool, (if b = true then (1 : Int) else 0) = 0 ∨ (if b = true then (1 : Int) else 0) = 1 := fun b => by cases b <;> simp
  refine en_I (by decide +kernel) (Nat.le_of_ble_eq_true rfl) ?_
  change Wd _ _ _ _ _ _ _ _ 0 [some _, some _, some _, none, none, none, none] [] _ _ _ _
  generalize hres : fedR s n 0 (I (m + 1)) = res
  have stopL : ∀ (T : Nat → Int) (i j q : Int) (w : Option Value), hiE (I (m + 1)) T → iR i → res = false → Wd G yX12_isFed cX12_isFed 7 (some .boolean) 5 (C.2.1 + 0, C.2.2 + 0) (NI C (QW m (if res = true then 1 else 0) I (I (m + 1)) P L)) 8 [some (.ref m), some (.int (zI x)), some (.int (zI y)), some (.int (zI j)), some (.int (zI 0)), some (.int (zI i)), w] [] C (uR I (m + 1) T) P L := by
    intro T i j q w hT hi hr
    refine r_iload (pc := 8) dX12_isFed_8 rfl ?_
    refine r_iload_n (pc := 10) dX12_isFed_10 rfl ?_
    refine r_icmp_ge (pc := 11) 83 dX12_isFed_11 (by decide) (by omega) (by omega) (fun h11 => ?_) (fun h11 => ?_)
    · skip
      refine r_iload (pc := 83) dX12_isFed_83 rfl ?_
      refine t_iret (pc := 85) dX12_isFed_85 rfl (nar_z (by decide)) ?_
      refine ⟨?_, ⟨T, hT, rfl⟩, rfl, rfl⟩
      rw [hr]; rfl
    · skip
      refine r_iload (pc := 14) dX12_isFed_14 rfl ?_
      refine r_if_eq (pc := 16) 83 dX12_isFed_16 (by decide) (by omega) (fun h16 => ?_) (fun h16 => ?_)
      · skip
        refine r_iload (pc := 83) dX12_isFed_83 rfl ?_
        refine t_iret (pc := 85) dX12_isFed_85 rfl (nar_z (by decide)) ?_
        refine ⟨?_, ⟨T, hT, rfl⟩, rfl, rfl⟩
        rw [hr]; rfl
      · exfalso; omega
  have loop : ∀ (d o jn : Nat) (i j : Int) (w : Option Value) (T : Nat → Int), o + d = n → i = (o : Int) → j = (jn : Int) → (jn : Int) + noonsF T d ≤ 8 → hiE (I (m + 1)) T → FI T (Y + o) → res = fedR s d jn T → Wd G yX12_isFed cX12_isFed 7 (some .boolean) 5 (C.2.1 + 0, C.2.2 + 0) (NI C (QW m (if res = true then 1 else 0) I (I (m + 1)) P L)) 8 [some (.ref m), some (.int (zI x)), some (.int (zI y)), some (.int (zI j)), some (.int (zI 1)), some (.int (zI i)), w] [] C (uR I (m + 1) T) P L := by
    intro d
    induction d with
    | zero =>
      intro o jn i j w T hd hi hj hjn hT hFT hr
      refine r_iload (pc := 8) dX12_isFed_8 rfl ?_
      refine r_iload_n (pc := 10) dX12_isFed_10 rfl ?_
      refine r_icmp_ge (pc := 11) 83 dX12_isFed_11 (by decide) (by omega) (by omega) (fun h11 => ?_) (fun h11 => ?_)
      · skip
        refine r_iload (pc := 83) dX12_isFed_83 rfl ?_
        refine t_iret (pc := 85) dX12_isFed_85 rfl (nar_z (by decide)) ?_
        exact ⟨by rw [hr]; rfl, ⟨T, hT, rfl⟩, rfl, rfl⟩
      · exfalso; omega
    | succ d ih =>
      intro o jn i j w T hd hi hj hjn hT hFT hr
      have h1 := hFT.2.1
      have h0 := hFT.1
      obtain ⟨hTs, hTz⟩ := sizeF_le hFT
      have hnd := (noonsF_in (goF T (s.testBit jn)) d).1
      have hno1 := noons_go T (s.testBit jn) d
      have hno2 := noons_go T false d
      have hnd2 := (noonsF_in (goF T false) d).1
      rw [fedR] at hr
      by_cases hn : noonF T (T 1) = true
      · rw [if_pos hn] at hr hno1
        have hw := wantF_in hFT (s.testBit jn)
        have hbit := b_bit (s := s) (f := jn) (by omega) (by omega)
        rw [← hy, ← hj] at hbit
        refine r_iload (pc := 8) dX12_isFed_8 rfl ?_
        refine r_iload_n (pc := 10) dX12_isFed_10 rfl ?_
        refine r_icmp_ge (pc := 11) 83 dX12_isFed_11 (by decide) (by omega) (by omega) (fun h11 => ?_) (fun h11 => ?_)
        · exfalso; omega
        · skip
          refine r_iload (pc := 14) dX12_isFed_14 rfl ?_
          refine r_if_eq (pc := 16) 83 dX12_isFed_16 (by decide) (by omega) (fun h16 => ?_) (fun h16 => ?_)
          · exfalso; omega
          · skip
            refine r_aload_n (pc := 19) dX12_isFed_19 rfl ?_
            refine r_aload_n (pc := 20) dX12_isFed_20 rfl ?_
            refine r_getA (pc := 21) dX12_isFed_21 frX12_7 (by assumption) (by assumption) ?_
            refine r_iconst (pc := 24) dX12_isFed_24 ?_
            refine r_iald (j := 1) (pc := 25) dX12_isFed_25 (by assumption) rfl (by omega) (by omega) ?_
            try simp only [u2_I, uR_uR, uR_app, eq_self, Nat.reduceEqDiff, Nat.add_eq_left, Nat.left_eq_add, ↓reduceIte]
            refine i_V1ix (pc := 26) okX12_isNoon inX12_isNoon selX12_isNoon q1153 dX12_isFed_26 (by assumption) rfl (by decide) (Nat.le_of_ble_eq_true rfl) (sX12_isNoon) ?_
            try simp only [u2_I, uR_uR, uR_app, eq_self, Nat.reduceEqDiff, Nat.add_eq_left, Nat.left_eq_add, ↓reduceIte]
            rw [hn]
            refine r_istore (pc := 29) dX12_isFed_29 (by decide) ?_
            refine r_aload_n (pc := 31) dX12_isFed_31 rfl ?_
            refine r_iload (pc := 32) dX12_isFed_32 rfl ?_
            refine r_if_eq (pc := 34) 50 dX12_isFed_34 (by decide) (by omega) (fun h34 => ?_) (fun h34 => ?_)
            · exact absurd h34 (by decide)
            · skip
              refine r_iload_n (pc := 37) dX12_isFed_37 rfl ?_
              refine r_iload_n (pc := 38) dX12_isFed_38 rfl ?_
              refine r_ishr (pc := 39) dX12_isFed_39 ?_
              refine r_iconst (pc := 40) dX12_isFed_40 ?_
              refine r_iand (pc := 41) dX12_isFed_41 ?_
              rw [hbit]
              refine r_iconst (pc := 42) dX12_isFed_42 ?_
              refine r_icmp_ne (pc := 43) 50 dX12_isFed_43 (by decide) (by omega) (by omega) (fun h43 => ?_) (fun h43 => ?_)
              · skip
                refine r_iconst (pc := 50) dX12_isFed_50 ?_
                refine i_V1ix (pc := 51) okX12_goYear inX12_goYear selX12_goYear q1149 dX12_isFed_51 (by assumption) rfl (by decide) (Nat.le_of_ble_eq_true rfl) (sX12_goYear (bad := s.testBit jn) (hx := by revert h43; cases s.testBit jn <;> simp) (Y := Y + o)) ?_
                try simp only [u2_I, uR_uR, uR_app, eq_self, Nat.reduceEqDiff, Nat.add_eq_left, Nat.left_eq_add, ↓reduceIte]
                refine r_if_ne (pc := 54) 61 dX12_isFed_54 (by decide) (by omega) (fun h54 => ?_) (fun h54 => ?_)
                · skip
                  refine r_iconst (pc := 61) dX12_isFed_61 ?_
                  refine r_istore (pc := 62) dX12_isFed_62 (by decide) ?_
                  refine r_iload_n (pc := 64) dX12_isFed_64 rfl ?_
                  refine r_iload (pc := 65) dX12_isFed_65 rfl ?_
                  refine r_if_eq (pc := 67) 74 dX12_isFed_67 (by decide) (by omega) (fun h67 => ?_) (fun h67 => ?_)
                  · exact absurd h67 (by decide)
                  · skip
                    refine r_iconst (pc := 70) dX12_isFed_70 ?_
                    refine r_goto (pc := 71) 75 dX12_isFed_71 (by decide) ?_
                    refine r_iadd (pc := 75) dX12_isFed_75 ?_
                    refine r_istore_n (pc := 76) dX12_isFed_76 (by decide) ?_
                    refine r_iinc (pc := 77) dX12_isFed_77 rfl ?_
                    refine r_goto (pc := 80) 8 dX12_isFed_80 (by decide) ?_
                    refine stopL _ _ _ 0 _ (hT.tr (go_hi _ _ hTs)) (by omega) ?_
                    rw [hr, if_neg (by omega)]
                · skip
                  refine r_iconst (pc := 57) dX12_isFed_57 ?_
                  refine r_goto (pc := 58) 62 dX12_isFed_58 (by decide) ?_
                  refine r_istore (pc := 62) dX12_isFed_62 (by decide) ?_
                  refine r_iload_n (pc := 64) dX12_isFed_64 rfl ?_
                  refine r_iload (pc := 65) dX12_isFed_65 rfl ?_
                  refine r_if_eq (pc := 67) 74 dX12_isFed_67 (by decide) (by omega) (fun h67 => ?_) (fun h67 => ?_)
                  · exact absurd h67 (by decide)
                  · skip
                    refine r_iconst (pc := 70) dX12_isFed_70 ?_
                    refine r_goto (pc := 71) 75 dX12_isFed_71 (by decide) ?_
                    refine r_iadd (pc := 75) dX12_isFed_75 ?_
                    refine r_istore_n (pc := 76) dX12_isFed_76 (by decide) ?_
                    refine r_iinc (pc := 77) dX12_isFed_77 rfl ?_
                    refine r_goto (pc := 80) 8 dX12_isFed_80 (by decide) ?_
                    refine ih (o + 1) (jn + 1) _ _ _ _ (by omega) (by omega) (by omega) (by omega) (hT.tr (go_hi _ _ hTs)) ?_ ?_
                    · rw [show Y + ((o + 1 : Nat) : Int) = Y + o + 1 by omega]; exact FI_go hFT _
                    · rw [hr, if_pos (by omega)]
              · skip
                refine r_iconst (pc := 46) dX12_isFed_46 ?_
                refine r_goto (pc := 47) 51 dX12_isFed_47 (by decide) ?_
                refine i_V1ix (pc := 51) okX12_goYear inX12_goYear selX12_goYear q1149 dX12_isFed_51 (by assumption) rfl (by decide) (Nat.le_of_ble_eq_true rfl) (sX12_goYear (bad := s.testBit jn) (hx := by revert h43; cases s.testBit jn <;> simp) (Y := Y + o)) ?_
                try simp only [u2_I, uR_uR, uR_app, eq_self, Nat.reduceEqDiff, Nat.add_eq_left, Nat.left_eq_add, ↓reduceIte]
                refine r_if_ne (pc := 54) 61 dX12_isFed_54 (by decide) (by omega) (fun h54 => ?_) (fun h54 => ?_)
                · skip
                  refine r_iconst (pc := 61) dX12_isFed_61 ?_
                  refine r_istore (pc := 62) dX12_isFed_62 (by decide) ?_
                  refine r_iload_n (pc := 64) dX12_isFed_64 rfl ?_
                  refine r_iload (pc := 65) dX12_isFed_65 rfl ?_
                  refine r_if_eq (pc := 67) 74 dX12_isFed_67 (by decide) (by omega) (fun h67 => ?_) (fun h67 => ?_)
                  · exact absurd h67 (by decide)
                  · skip
                    refine r_iconst (pc := 70) dX12_isFed_70 ?_
                    refine r_goto (pc := 71) 75 dX12_isFed_71 (by decide) ?_
                    refine r_iadd (pc := 75) dX12_isFed_75 ?_
                    refine r_istore_n (pc := 76) dX12_isFed_76 (by decide) ?_
                    refine r_iinc (pc := 77) dX12_isFed_77 rfl ?_
                    refine r_goto (pc := 80) 8 dX12_isFed_80 (by decide) ?_
                    refine stopL _ _ _ 0 _ (hT.tr (go_hi _ _ hTs)) (by omega) ?_
                    rw [hr, if_neg (by omega)]
                · skip
                  refine r_iconst (pc := 57) dX12_isFed_57 ?_
                  refine r_goto (pc := 58) 62 dX12_isFed_58 (by decide) ?_
                  refine r_istore (pc := 62) dX12_isFed_62 (by decide) ?_
                  refine r_iload_n (pc := 64) dX12_isFed_64 rfl ?_
                  refine r_iload (pc := 65) dX12_isFed_65 rfl ?_
                  refine r_if_eq (pc := 67) 74 dX12_isFed_67 (by decide) (by omega) (fun h67 => ?_) (fun h67 => ?_)
                  · exact absurd h67 (by decide)
                  · skip
                    refine r_iconst (pc := 70) dX12_isFed_70 ?_
                    refine r_goto (pc := 71) 75 dX12_isFed_71 (by decide) ?_
                    refine r_iadd (pc := 75) dX12_isFed_75 ?_
                    refine r_istore_n (pc := 76) dX12_isFed_76 (by decide) ?_
                    refine r_iinc (pc := 77) dX12_isFed_77 rfl ?_
                    refine r_goto (pc := 80) 8 dX12_isFed_80 (by decide) ?_
                    refine ih (o + 1) (jn + 1) _ _ _ _ (by omega) (by omega) (by omega) (by omega) (hT.tr (go_hi _ _ hTs)) ?_ ?_
                    · rw [show Y + ((o + 1 : Nat) : Int) = Y + o + 1 by omega]; exact FI_go hFT _
                    · rw [hr, if_pos (by omega)]
      · rw [if_neg hn] at hr hno2
        have hnf : noonF T (T 1) = false := by simpa using hn
        have hw := wantF_in hFT false
        refine r_iload (pc := 8) dX12_isFed_8 rfl ?_
        refine r_iload_n (pc := 10) dX12_isFed_10 rfl ?_
        refine r_icmp_ge (pc := 11) 83 dX12_isFed_11 (by decide) (by omega) (by omega) (fun h11 => ?_) (fun h11 => ?_)
        · exfalso; omega
        · skip
          refine r_iload (pc := 14) dX12_isFed_14 rfl ?_
          refine r_if_eq (pc := 16) 83 dX12_isFed_16 (by decide) (by omega) (fun h16 => ?_) (fun h16 => ?_)
          · exfalso; omega
          · skip
            refine r_aload_n (pc := 19) dX12_isFed_19 rfl ?_
            refine r_aload_n (pc := 20) dX12_isFed_20 rfl ?_
            refine r_getA (pc := 21) dX12_isFed_21 frX12_7 (by assumption) (by assumption) ?_
            refine r_iconst (pc := 24) dX12_isFed_24 ?_
            refine r_iald (j := 1) (pc := 25) dX12_isFed_25 (by assumption) rfl (by omega) (by omega) ?_
            try simp only [u2_I, uR_uR, uR_app, eq_self, Nat.reduceEqDiff, Nat.add_eq_left, Nat.left_eq_add, ↓reduceIte]
            refine i_V1ix (pc := 26) okX12_isNoon inX12_isNoon selX12_isNoon q1153 dX12_isFed_26 (by assumption) rfl (by decide) (Nat.le_of_ble_eq_true rfl) (sX12_isNoon) ?_
            try simp only [u2_I, uR_uR, uR_app, eq_self, Nat.reduceEqDiff, Nat.add_eq_left, Nat.left_eq_add, ↓reduceIte]
            rw [hnf]
            refine r_istore (pc := 29) dX12_isFed_29 (by decide) ?_
            refine r_aload_n (pc := 31) dX12_isFed_31 rfl ?_
            refine r_iload (pc := 32) dX12_isFed_32 rfl ?_
            refine r_if_eq (pc := 34) 50 dX12_isFed_34 (by decide) (by omega) (fun h34 => ?_) (fun h34 => ?_)
            · skip
              refine r_iconst (pc := 50) dX12_isFed_50 ?_
              refine i_V1ix (pc := 51) okX12_goYear inX12_goYear selX12_goYear q1149 dX12_isFed_51 (by assumption) rfl (by decide) (Nat.le_of_ble_eq_true rfl) (sX12_goYear (bad := false) (Y := Y + o)) ?_
              try simp only [u2_I, uR_uR, uR_app, eq_self, Nat.reduceEqDiff, Nat.add_eq_left, Nat.left_eq_add, ↓reduceIte]
              refine r_if_ne (pc := 54) 61 dX12_isFed_54 (by decide) (by omega) (fun h54 => ?_) (fun h54 => ?_)
              · skip
                refine r_iconst (pc := 61) dX12_isFed_61 ?_
                refine r_istore (pc := 62) dX12_isFed_62 (by decide) ?_
                refine r_iload_n (pc := 64) dX12_isFed_64 rfl ?_
                refine r_iload (pc := 65) dX12_isFed_65 rfl ?_
                refine r_if_eq (pc := 67) 74 dX12_isFed_67 (by decide) (by omega) (fun h67 => ?_) (fun h67 => ?_)
                · skip
                  refine r_iconst (pc := 74) dX12_isFed_74 ?_
                  refine r_iadd (pc := 75) dX12_isFed_75 ?_
                  refine r_istore_n (pc := 76) dX12_isFed_76 (by decide) ?_
                  refine r_iinc (pc := 77) dX12_isFed_77 rfl ?_
                  refine r_goto (pc := 80) 8 dX12_isFed_80 (by decide) ?_
                  refine stopL _ _ _ 0 _ (hT.tr (go_hi _ _ hTs)) (by omega) ?_
                  rw [hr, if_neg (by omega)]
                · exact absurd rfl h67
              · skip
                refine r_iconst (pc := 57) dX12_isFed_57 ?_
                refine r_goto (pc := 58) 62 dX12_isFed_58 (by decide) ?_
                refine r_istore (pc := 62) dX12_isFed_62 (by decide) ?_
                refine r_iload_n (pc := 64) dX12_isFed_64 rfl ?_
                refine r_iload (pc := 65) dX12_isFed_65 rfl ?_
                refine r_if_eq (pc := 67) 74 dX12_isFed_67 (by decide) (by omega) (fun h67 => ?_) (fun h67 => ?_)
                · skip
                  refine r_iconst (pc := 74) dX12_isFed_74 ?_
                  refine r_iadd (pc := 75) dX12_isFed_75 ?_
                  refine r_istore_n (pc := 76) dX12_isFed_76 (by decide) ?_
                  refine r_iinc (pc := 77) dX12_isFed_77 rfl ?_
                  refine r_goto (pc := 80) 8 dX12_isFed_80 (by decide) ?_
                  refine ih (o + 1) jn _ _ _ _ (by omega) (by omega) (by omega) (by omega) (hT.tr (go_hi _ _ hTs)) ?_ ?_
                  · rw [show Y + ((o + 1 : Nat) : Int) = Y + o + 1 by omega]; exact FI_go hFT _
                  · rw [hr, if_pos (by omega)]
                · exact absurd rfl h67
            · exact absurd rfl h34
  have e0 : uR I (m + 1) (I (m + 1)) = I := uR_same I (m + 1)
  refine r_iconst (pc := 0) dX12_isFed_0 ?_
  refine r_istore_n (pc := 1) dX12_isFed_1 (by decide) ?_
  refine r_iconst (pc := 2) dX12_isFed_2 ?_
  refine r_istore (pc := 3) dX12_isFed_3 (by decide) ?_
  refine r_iconst (pc := 5) dX12_isFed_5 ?_
  refine r_istore (pc := 6) dX12_isFed_6 (by decide) ?_
  skip
  have q := loop n 0 0 0 0 none (I (m + 1)) (by omega) rfl rfl (by omega) (hiE.rf _) (by simpa using hF) hres.symm
  rw [e0] at q
  exact q
theorem tof_st (F : Nat → Int) (s n : Nat) : teachOf F s (n + 1) = up (teachOf F s n) (10 + 4 * n) (if s.testBit n then 1 else if F (10 + 4 * n) = 1 then 0 else F (10 + 4 * n)) := rfl
theorem know_st (F : Nat → Int) (n : Nat) : knowF F (n + 1) = (knowF F n && decide (0 < F (9 + 4 * n))) := rfl
theorem sX12_allRemember {n s : Nat} {x y : Int} (hm : RfL G C P m := by assumption) (hR : I (m + 1) = R := by first | exact uR_s _ _ _ | rfl) (hF : FI R Y := by assumption) (hY : Y ≤ 900000 := by omega) (hx : x = (n : Int) := by first | rfl | omega) (hn : n ≤ 1000 := by omega) (hy : y = (s : Int) := by first | rfl | omega) (hs : s < 1000 := by omega) : SX12_allRemember G [.ref m, .int (zI x), .int (zI y)] C I P L (NI C (QW m (if keepF R n s = true then 1 else 0) I R P L)) := by
  obtain ⟨hBm, hKm, hK1, hK2, hK3, hK4, hK5, hK6, hK7, hK8, hK9, hK10, hK11, hP0, hP1, hP2, hP3, hP6, hP7, hP8, hP9, hP10, hP16, hP17⟩ := id hm
  subst hR
  obtain ⟨hs6, hsz⟩ := sizeF_le hF
  have nb : ∀ b : Bool, iR (if b = true then 1 else 0) := fun b => by cases b <;> decide
  have hTF := FI_tof hF s (sizeF (I (m + 1))) hs6
  have hTz : sizeF (teachOf (I (m + 1)) s (sizeF (I (m + 1)))) = sizeF (I (m + 1)) := sz_same (fx_tof _ _ (by omega) _)
  have hRz : sizeF (runF (teachOf (I (m + 1)) s (sizeF (I (m + 1)))) n) = sizeF (I (m + 1)) := (sz_run _ n).trans hTz
  have hhi : hiE (I (m + 1)) (runF (teachOf (I (m + 1)) s (sizeF (I (m + 1)))) n) := (tof_hiE _ s _ hs6).tr (run_hi _ (by omega) n)
  have hkeep : keepF (I (m + 1)) n s = knowF (runF (teachOf (I (m + 1)) s (sizeF (I (m + 1)))) n) (sizeF (I (m + 1))) := rfl
  refine en_I (by decide +kernel) (Nat.le_of_ble_eq_true rfl) ?_
  change Wd _ _ _ _ _ _ _ _ 0 [some _, some _, some _, none, none] [] _ _ _ _
  have loop3 : ∀ (T : Nat → Int), FI T (Y + n) → sizeF T = sizeF (I (m + 1)) → hiE (I (m + 1)) T → keepF (I (m + 1)) n s = knowF T (sizeF (I (m + 1))) → ∀ (d o : Nat) (i k : Int), o + d = sizeF (I (m + 1)) → i = (o : Int) → k = (if knowF T o = true then 1 else 0) → Wd G yX12_allRemember cX12_allRemember 5 (some .boolean) 5 (C.2.1 + 0, C.2.2 + 0) (NI C (QW m (if keepF (I (m + 1)) n s = true then 1 else 0) I (I (m + 1)) P L)) 93 [some (.ref m), some (.int (zI x)), some (.int (zI y)), some (.int (zI k)), some (.int (zI i))] [] C (uR I (m + 1) T) P L := by
    intro T hT hTs hTh hTk d
    have hT6 := (sizeF_le hT).2
    induction d using Nat.strongRecOn with
    | _ d ih =>
      intro o i k hd hi hk
      have hkr := nb (knowF T o)
      rw [← hk] at hkr
      refine r_iload (pc := 93) dX12_allRemember_93 rfl ?_
      refine r_aload_n (pc := 95) dX12_allRemember_95 rfl ?_
      refine i_V0ix (pc := 96) okX12_families inX12_families selX12_families q1118 dX12_allRemember_96 (by assumption) rfl (by decide) (Nat.le_of_ble_eq_true rfl) (sX12_families) ?_
      try simp only [u2_I, uR_uR, uR_app, eq_self, Nat.reduceEqDiff, Nat.add_eq_left, Nat.left_eq_add, ↓reduceIte]
      refine r_icmp_ge (pc := 99) 128 dX12_allRemember_99 (by decide) (by omega) (by omega) (fun h99 => ?_) (fun h99 => ?_)
      · skip
        refine r_iload_n (pc := 128) dX12_allRemember_128 rfl ?_
        refine t_iret (pc := 129) dX12_allRemember_129 rfl (nar_z (by rw [hk]; cases knowF T o <;> simp)) ?_
        exact ⟨by rw [hk, hTk, show sizeF (I (m + 1)) = o by omega], ⟨T, hTh, rfl⟩, rfl, rfl⟩
      · skip
        have ho6 : o < 6 := by omega
        obtain ⟨f1, f2, f3, f4, f5⟩ := hT.2.2.2.2.2.2.2 o ho6
        refine r_iload_n (pc := 102) dX12_allRemember_102 rfl ?_
        refine r_if_eq (pc := 103) 120 dX12_allRemember_103 (by decide) (by omega) (fun h103 => ?_) (fun h103 => ?_)
        · skip
          refine r_iconst (pc := 120) dX12_allRemember_120 ?_
          refine r_istore_n (pc := 121) dX12_allRemember_121 (by decide) ?_
          refine r_iinc (pc := 122) dX12_allRemember_122 rfl ?_
          refine r_goto (pc := 125) 93 dX12_allRemember_125 (by decide) ?_
          refine ih (d - 1) (by omega) (o + 1) _ _ (by omega) (by omega) ?_
          rw [know_st]
          revert hk; cases knowF T o <;> simp <;> omega
        · skip
          refine r_aload_n (pc := 106) dX12_allRemember_106 rfl ?_
          refine r_iload (pc := 107) dX12_allRemember_107 rfl ?_
          refine r_iconst (pc := 109) dX12_allRemember_109 ?_
          refine i_V2ix (pc := 110) okX12_of inX12_of selX12_of q1137 dX12_allRemember_110 (by assumption) rfl (by decide) (Nat.le_of_ble_eq_true rfl) (sX12_of (k := 9 + 4 * o) (by omega)) ?_
          try simp only [u2_I, uR_uR, uR_app, eq_self, Nat.reduceEqDiff, Nat.add_eq_left, Nat.left_eq_add, ↓reduceIte]
          refine r_if_le (pc := 113) 120 dX12_allRemember_113 (by decide) (by omega) (fun h113 => ?_) (fun h113 => ?_)
          · skip
            refine r_iconst (pc := 120) dX12_allRemember_120 ?_
            refine r_istore_n (pc := 121) dX12_allRemember_121 (by decide) ?_
            refine r_iinc (pc := 122) dX12_allRemember_122 rfl ?_
            refine r_goto (pc := 125) 93 dX12_allRemember_125 (by decide) ?_
            refine ih (d - 1) (by omega) (o + 1) _ _ (by omega) (by omega) ?_
            rw [know_st, show decide (0 < T (9 + 4 * o)) = false from decide_eq_false (by omega)]
            simp
          · skip
            refine r_iconst (pc := 116) dX12_allRemember_116 ?_
            refine r_goto (pc := 117) 121 dX12_allRemember_117 (by decide) ?_
            refine r_istore_n (pc := 121) dX12_allRemember_121 (by decide) ?_
            refine r_iinc (pc := 122) dX12_allRemember_122 rfl ?_
            refine r_goto (pc := 125) 93 dX12_allRemember_125 (by decide) ?_
            refine ih (d - 1) (by omega) (o + 1) _ _ (by omega) (by omega) ?_
            rw [know_st, show decide (0 < T (9 + 4 * o)) = true from decide_eq_true (by omega)]
            revert hk; cases knowF T o <;> simp <;> omega
  have loop2 : ∀ (d o : Nat) (i : Int) (w : Option Value), o + d = n → i = (o : Int) → Wd G yX12_allRemember cX12_allRemember 5 (some .boolean) 5 (C.2.1 + 0, C.2.2 + 0) (NI C (QW m (if keepF (I (m + 1)) n s = true then 1 else 0) I (I (m + 1)) P L)) 70 [some (.ref m), some (.int (zI x)), some (.int (zI y)), some (.int (zI i)), w] [] C (uR I (m + 1) (runF (teachOf (I (m + 1)) s (sizeF (I (m + 1)))) o)) P L := by
    intro d
    induction d using Nat.strongRecOn with
    | _ d ih =>
      intro o i w hd hi
      have hFo := FI_run hTF o
      have hwi := wantF_in hFo false
      refine r_iload_n (pc := 70) dX12_allRemember_70 rfl ?_
      refine r_iload_n (pc := 71) dX12_allRemember_71 rfl ?_
      refine r_icmp_ge (pc := 72) 88 dX12_allRemember_72 (by decide) (by omega) (by omega) (fun h72 => ?_) (fun h72 => ?_)
      · skip
        refine r_iconst (pc := 88) dX12_allRemember_88 ?_
        refine r_istore_n (pc := 89) dX12_allRemember_89 (by decide) ?_
        refine r_iconst (pc := 90) dX12_allRemember_90 ?_
        refine r_istore (pc := 91) dX12_allRemember_91 (by decide) ?_
        rw [show o = n by omega]
        exact loop3 _ (FI_run hTF n) hRz hhi hkeep (sizeF (I (m + 1))) 0 _ _ (by omega) rfl rfl
      · skip
        refine r_aload_n (pc := 75) dX12_allRemember_75 rfl ?_
        refine r_iconst (pc := 76) dX12_allRemember_76 ?_
        refine i_V1ix (pc := 77) okX12_goYear inX12_goYear selX12_goYear q1149 dX12_allRemember_77 (by assumption) rfl (by decide) (Nat.le_of_ble_eq_true rfl) (sX12_goYear (bad := false) (Y := Y + o)) ?_
        try simp only [u2_I, uR_uR, uR_app, eq_self, Nat.reduceEqDiff, Nat.add_eq_left, Nat.left_eq_add, ↓reduceIte]
        refine r_istore (pc := 80) dX12_allRemember_80 (by decide) ?_
        refine r_iinc (pc := 82) dX12_allRemember_82 rfl ?_
        refine r_goto (pc := 85) 70 dX12_allRemember_85 (by decide) ?_
        exact ih (d - 1) (by omega) (o + 1) _ _ (by omega) (by omega)
  have loop1 : ∀ (d o : Nat) (i : Int) (w : Option Value) (J : MI), o + d = sizeF (I (m + 1)) → i = (o : Int) → J = uR I (m + 1) (teachOf (I (m + 1)) s o) → Wd G yX12_allRemember cX12_allRemember 5 (some .boolean) 5 (C.2.1 + 0, C.2.2 + 0) (NI C (QW m (if keepF (I (m + 1)) n s = true then 1 else 0) I (I (m + 1)) P L)) 2 [some (.ref m), some (.int (zI x)), some (.int (zI y)), some (.int (zI i)), w] [] C J P L := by
    intro d
    induction d using Nat.strongRecOn with
    | _ d ih =>
      intro o i w J hd hi hJ
      subst hJ
      have h6 : teachOf (I (m + 1)) s o 6 = I (m + 1) 6 := fx_tof _ _ (by omega) _
      have h10 : teachOf (I (m + 1)) s o (10 + 4 * o) = I (m + 1) (10 + 4 * o) := tof_hi _ s o o (Nat.le_refl _)
      refine r_iload_n (pc := 2) dX12_allRemember_2 rfl ?_
      refine r_aload_n (pc := 3) dX12_allRemember_3 rfl ?_
      refine i_V0ix (pc := 4) okX12_families inX12_families selX12_families q1118 dX12_allRemember_4 (by assumption) rfl (by decide) (Nat.le_of_ble_eq_true rfl) (sX12_families) ?_
      try simp only [u2_I, uR_uR, uR_app, eq_self, Nat.reduceEqDiff, Nat.add_eq_left, Nat.left_eq_add, ↓reduceIte]
      refine r_icmp_ge (pc := 7) 68 dX12_allRemember_7 (by decide) (by first | omega | exact nb _) (by first | omega | exact nb _) (fun h7 => ?_) (fun h7 => ?_)
      · skip
        refine r_iconst (pc := 68) dX12_allRemember_68 ?_
        refine r_istore_n (pc := 69) dX12_allRemember_69 (by decide) ?_
        rw [show o = sizeF (I (m + 1)) by omega]
        exact loop2 n 0 _ _ (by omega) rfl
      · skip
        have ho6 : o < 6 := by omega
        obtain ⟨f1, f2, f3, f4, f5⟩ := hF.2.2.2.2.2.2.2 o ho6
        have hbit := b_bit (s := s) (f := o) (by omega) (by omega)
        rw [← hy, ← hi] at hbit
        refine r_bipush (pc := 10) dX12_allRemember_10 (by decide) ?_
        refine r_iconst (pc := 12) dX12_allRemember_12 ?_
        refine r_iload_n (pc := 13) dX12_allRemember_13 rfl ?_
        refine r_imul (pc := 14) dX12_allRemember_14 ?_
        refine r_iadd (pc := 15) dX12_allRemember_15 ?_
        refine r_iconst (pc := 16) dX12_allRemember_16 ?_
        refine r_iadd (pc := 17) dX12_allRemember_17 ?_
        refine r_istore (pc := 18) dX12_allRemember_18 (by decide) ?_
        refine r_aload_n (pc := 20) dX12_allRemember_20 rfl ?_
        refine r_getA (pc := 21) dX12_allRemember_21 frX12_7 (by assumption) (by assumption) ?_
        refine r_iload (pc := 24) dX12_allRemember_24 rfl ?_
        refine r_iload_n (pc := 26) dX12_allRemember_26 rfl ?_
        refine r_iload_n (pc := 27) dX12_allRemember_27 rfl ?_
        refine r_ishr (pc := 28) dX12_allRemember_28 ?_
        refine r_iconst (pc := 29) dX12_allRemember_29 ?_
        refine r_iand (pc := 30) dX12_allRemember_30 ?_
        rw [hbit]
        refine r_iconst (pc := 31) dX12_allRemember_31 ?_
        refine r_icmp_ne (pc := 32) 39 dX12_allRemember_32 (by decide) (by first | omega | exact nb _) (by first | omega | exact nb _) (fun h32 => ?_) (fun h32 => ?_)
        · skip
          refine r_aload_n (pc := 39) dX12_allRemember_39 rfl ?_
          refine r_getA (pc := 40) dX12_allRemember_40 frX12_7 (by assumption) (by assumption) ?_
          refine r_iload (pc := 43) dX12_allRemember_43 rfl ?_
          refine r_iald (j := 10 + 4 * o) (pc := 45) dX12_allRemember_45 (by assumption) (by omega) (by first | omega | exact nb _) (by omega) ?_
          try simp only [u2_I, uR_uR, uR_app, eq_self, Nat.reduceEqDiff, Nat.add_eq_left, Nat.left_eq_add, ↓reduceIte]
          rw [h10]
          refine r_iconst (pc := 46) dX12_allRemember_46 ?_
          refine r_icmp_ne (pc := 47) 54 dX12_allRemember_47 (by decide) (by first | omega | exact nb _) (by first | omega | exact nb _) (fun h47 => ?_) (fun h47 => ?_)
          · skip
            refine r_aload_n (pc := 54) dX12_allRemember_54 rfl ?_
            refine r_getA (pc := 55) dX12_allRemember_55 frX12_7 (by assumption) (by assumption) ?_
            refine r_iload (pc := 58) dX12_allRemember_58 rfl ?_
            refine r_iald (j := 10 + 4 * o) (pc := 60) dX12_allRemember_60 (by assumption) (by omega) (by first | omega | exact nb _) (by omega) ?_
            try simp only [u2_I, uR_uR, uR_app, eq_self, Nat.reduceEqDiff, Nat.add_eq_left, Nat.left_eq_add, ↓reduceIte]
            try rw [h10]
            refine r_iast (j := 10 + 4 * o) (pc := 61) dX12_allRemember_61 (by assumption) (by first | omega | exact nb _) (by omega) (by first | omega | exact nb _) (by omega) ?_
            try simp only [u2_I, uR_uR, uR_app, eq_self, Nat.reduceEqDiff, Nat.add_eq_left, Nat.left_eq_add, ↓reduceIte]
            refine r_iinc (pc := 62) dX12_allRemember_62 rfl ?_
            refine r_goto (pc := 65) 2 dX12_allRemember_65 (by decide) ?_
            refine ih (d - 1) (by omega) (o + 1) _ _ _ (by omega) (by omega) ?_
            rw [tof_st, if_neg (by revert h32; cases s.testBit o <;> simp), if_neg (by omega)]
          · skip
            refine r_iconst (pc := 50) dX12_allRemember_50 ?_
            refine r_goto (pc := 51) 61 dX12_allRemember_51 (by decide) ?_
            try rw [h10]
            refine r_iast (j := 10 + 4 * o) (pc := 61) dX12_allRemember_61 (by assumption) (by first | omega | exact nb _) (by omega) (by first | omega | exact nb _) (by omega) ?_
            try simp only [u2_I, uR_uR, uR_app, eq_self, Nat.reduceEqDiff, Nat.add_eq_left, Nat.left_eq_add, ↓reduceIte]
            refine r_iinc (pc := 62) dX12_allRemember_62 rfl ?_
            refine r_goto (pc := 65) 2 dX12_allRemember_65 (by decide) ?_
            refine ih (d - 1) (by omega) (o + 1) _ _ _ (by omega) (by omega) ?_
            rw [tof_st, if_neg (by revert h32; cases s.testBit o <;> simp), if_pos (by omega)]
        · skip
          refine r_iconst (pc := 35) dX12_allRemember_35 ?_
          refine r_goto (pc := 36) 61 dX12_allRemember_36 (by decide) ?_
          try rw [h10]
          refine r_iast (j := 10 + 4 * o) (pc := 61) dX12_allRemember_61 (by assumption) (by first | omega | exact nb _) (by omega) (by first | omega | exact nb _) (by omega) ?_
          try simp only [u2_I, uR_uR, uR_app, eq_self, Nat.reduceEqDiff, Nat.add_eq_left, Nat.left_eq_add, ↓reduceIte]
          refine r_iinc (pc := 62) dX12_allRemember_62 rfl ?_
          refine r_goto (pc := 65) 2 dX12_allRemember_65 (by decide) ?_
          refine ih (d - 1) (by omega) (o + 1) _ _ _ (by omega) (by omega) ?_
          rw [tof_st, if_pos (by revert h32; cases s.testBit o <;> simp)]
  refine r_iconst (pc := 0) dX12_allRemember_0 ?_
  refine r_istore_n (pc := 1) dX12_allRemember_1 (by decide) ?_
  exact loop1 (sizeF (I (m + 1))) 0 _ _ _ (by omega) rfl (uR_same I (m + 1)).symm
end REF4

