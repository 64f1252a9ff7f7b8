/-! more grain never brings more want -/
def gw (F : Nat → Int) (g w : Int) : Nat → Int := up (up F 2 g) 31 w
theorem gw_a (F : Nat → Int) (g w : Int) {k : Nat} (h : k ≠ 2) (h2 : k ≠ 31) : gw F g w k = F k := by unfold gw; rw [up_n _ _ h2, up_n _ _ h]
theorem gw_2 (F : Nat → Int) (g w : Int) : gw F g w 2 = g := by unfold gw; rw [up_n _ _ (by decide), up_s]
theorem gw_31 (F : Nat → Int) (g w : Int) : gw F g w 31 = w := by unfold gw; rw [up_s]
theorem gw_up (F : Nat → Int) (g w v : Int) {k : Nat} (h : k ≠ 2) (h2 : k ≠ 31) : gw (up F k v) g w = up (gw F g w) k v := by
  funext j
  simp only [gw, up_app]
  (repeat' split) <;> first | rfl | (exfalso; omega)
theorem gw_o2 (F : Nat → Int) (g w v : Int) : gw (up F 2 v) g w = gw F g w := by
  funext j
  simp only [gw, up_app]
  (repeat' split) <;> rfl
theorem gw_u2 (F : Nat → Int) (g w v : Int) : up (gw F g w) 2 v = gw F v w := by
  funext j
  simp only [gw, up_app]
  (repeat' split) <;> first | rfl | (exfalso; omega)
theorem gw_o31 (F : Nat → Int) (g w v : Int) : gw (up F 31 v) g w = gw F g w := by
  funext j
  simp only [gw, up_app]
  (repeat' split) <;> rfl
theorem gw_u31 (F : Nat → Int) (g w v : Int) : up (gw F g w) 31 v = gw F g v := by
  funext j
  simp only [gw, up_app]
  (repeat' split) <;> rfl
theorem gw_sz (F : Nat → Int) (g w : Int) : sizeF (gw F g w) = sizeF F := sz_same (gw_a F g w (by decide) (by decide))
theorem gw_noon (F : Nat → Int) (g w y : Int) : noonF (gw F g w) y = noonF F y := by unfold noonF; rw [gw_a F g w (by decide) (by decide)]
theorem gw_hands (F : Nat → Int) (g w : Int) : ∀ m, m ≤ 5 → handsF (gw F g w) m = handsF F m := by
  intro m
  induction m with
  | zero => intro _; rfl
  | succ m ih => intro hm; unfold handsF; rw [ih (by omega), gw_a F g w (by omega) (by omega), gw_a F g w (by omega) (by omega)]
theorem gw_hands6 (F : Nat → Int) (g w : Int) : ∀ m, m ≤ 6 → handsF (gw F g w) m = handsF F m := by
  intro m
  induction m with
  | zero => intro _; rfl
  | succ m ih => intro hm; unfold handsF; rw [ih (by omega), gw_a F g w (by omega) (by omega), gw_a F g w (by omega) (by omega)]
theorem gw_sown {F : Nat → Int} (g w : Int) (hs : sizeF F ≤ 6) : sownF (gw F g w) = sownF F := by
  unfold sownF
  rw [gw_sz, gw_hands6 F g w _ hs, gw_a F g w (by omega) (by omega), gw_a F g w (by omega) (by omega)]
theorem gw_teach (F : Nat → Int) (g w : Int) (f : Nat) (l : Int) : ∀ o, o ≤ 6 → teachF (gw F g w) f l o = gw (teachF F f l o) g w := by
  intro o
  induction o with
  | zero => intro _; rfl
  | succ o ih =>
    intro ho
    unfold teachF
    split
    · exact ih (by omega)
    · rw [ih (by omega), gw_a _ g w (by omega) (by omega), gw_up _ _ _ _ (by omega) (by omega)]
theorem gw_work1 {F : Nat → Int} (g w : Int) (hs : sizeF F ≤ 6) {f : Nat} (hf : f < 6) : work1 (gw F g w) f = gw (work1 F f) g w := by
  unfold work1
  rw [gw_sz, gw_a F g w (k := 7 + 4 * f) (by omega) (by omega), gw_a F g w (k := 1) (by omega) (by omega), gw_a F g w (k := 10 + 4 * f) (by omega) (by omega), gw_a F g w (k := 9 + 4 * f) (by omega) (by omega), gw_a F g w (k := 4) (by omega) (by omega), gw_a F g w (k := 3) (by omega) (by omega), gw_a F g w (k := 5) (by omega) (by omega)]
  split
  · rfl
  split
  · exact gw_teach F g w f _ _ hs
  split
  · exact (gw_up _ _ _ _ (by omega) (by omega)).symm
  split
  · exact (gw_up _ _ _ _ (by omega) (by omega)).symm
  split
  · exact (gw_up _ _ _ _ (by omega) (by omega)).symm
  · rfl
theorem gw_work {F : Nat → Int} (g w : Int) (hs : sizeF F ≤ 6) : ∀ m, m ≤ 6 → workF (gw F g w) m = gw (workF F m) g w := by
  intro m
  induction m with
  | zero => intro _; rfl
  | succ m ih =>
    intro hm
    have e : sizeF (workF F m) ≤ 6 := by rw [sz_same (fx_work F (by omega) (by omega) m)]; exact hs
    unfold workF
    rw [ih (by omega), gw_work1 g w e (by omega)]
theorem gw_eat (F : Nat → Int) (g w : Int) (b : Bool) : ∀ m, m ≤ 6 → eatF (gw F g w) b m = eatF F b m := by
  intro m
  induction m with
  | zero => intro _; rfl
  | succ m ih => intro hm; unfold eatF; rw [ih (by omega), gw_a F g w (by omega) (by omega), gw_a F g w (by omega) (by omega)]
theorem gw_warm (F : Nat → Int) (g w : Int) : ∀ m, m ≤ 6 → warmF (gw F g w) m = gw (warmF F m) g w := by
  intro m
  induction m with
  | zero => intro _; rfl
  | succ m ih =>
    intro hm
    unfold warmF warm1
    rw [ih (by omega), gw_a _ g w (k := 5) (by omega) (by omega), gw_a _ g w (k := 32) (by omega) (by omega), gw_a _ g w (k := 8 + 4 * m) (by omega) (by omega)]
    split
    · rw [gw_up _ _ _ _ (by omega) (by omega)]
    · rw [gw_up _ _ _ _ (by omega) (by omega), gw_up _ _ _ _ (by omega) (by omega)]
theorem gw_forg (F : Nat → Int) (g w : Int) : ∀ m, m ≤ 6 → forgF (gw F g w) m = gw (forgF F m) g w := by
  intro m
  induction m with
  | zero => intro _; rfl
  | succ m ih => intro hm; unfold forgF; rw [ih (by omega), gw_a _ g w (by omega) (by omega), gw_a _ g w (by omega) (by omega), gw_up _ _ _ _ (by omega) (by omega)]
theorem gw_rem (F : Nat → Int) (g w : Int) : ∀ m, m ≤ 6 → remF (gw F g w) m = gw (remF F m) g w := by
  intro m
  induction m with
  | zero => intro _; rfl
  | succ m ih => intro hm; unfold remF; rw [ih (by omega), gw_up _ _ _ _ (by omega) (by omega)]
theorem gw_harv (F : Nat → Int) (g w s : Int) : harvF (gw F g w) s = gw (harvF F s) (cut (g + 5 * s)) w := by
  unfold harvF
  rw [gw_2, gw_a F g w (k := 3) (by omega) (by omega), gw_a F g w (k := 4) (by omega) (by omega), gw_a F g w (k := 5) (by omega) (by omega), gw_u2, gw_up _ _ _ _ (by omega) (by omega), gw_up _ _ _ _ (by omega) (by omega), gw_up _ _ _ _ (by omega) (by omega), gw_o2]
theorem gw_lose (F : Nat → Int) (g w : Int) : loseF (gw F g w) = gw (loseF F) (g - g / 10) w := by
  unfold loseF
  rw [gw_2, gw_a F g w (k := 1) (by omega) (by omega), gw_a F g w (k := 3) (by omega) (by omega), gw_a F g w (k := 4) (by omega) (by omega), gw_u2]
  split
  · rw [gw_up _ _ _ _ (by omega) (by omega), gw_up _ _ _ _ (by omega) (by omega), gw_o2]
  · rw [gw_up _ _ _ _ (by omega) (by omega), gw_o2]
theorem gw_go {F : Nat → Int} (g w : Int) (b : Bool) (hs : sizeF F ≤ 6) (hg : F 2 ≤ g) : ∃ g' w', goF (gw F g w) b = gw (goF F b) g' w' ∧ goF F b 2 ≤ g' ∧ wantF (gw F g w) b ≤ wantF F b := by
  have hs1 : sizeF (preF F b) ≤ 6 := by rw [sz_pre]; exact hs
  obtain ⟨g1, e1, l1⟩ : ∃ g1, preF (gw F g w) b = gw (preF F b) g1 w ∧ preF F b 2 ≤ g1 := by
    unfold preF
    rw [gw_noon, gw_a F g w (by omega) (by omega), gw_sown g w hs, gw_sz]
    split
    · refine ⟨_, gw_harv F g w _, ?_⟩
      have e : ∀ s, harvF F s 2 = cut (F 2 + 5 * s) := fun s => by unfold harvF; rw [up_n _ _ (by omega), up_n _ _ (by omega), up_n _ _ (by omega), up_s]
      rw [e]; unfold cut; omega
    · refine ⟨_, gw_work g w hs _ hs, ?_⟩
      rw [fx_work F (by omega) (by omega)]; exact hg
  have e2 : lackF (gw (preF F b) g1 w) (noonF F (F 1)) ≤ lackF (preF F b) (noonF F (F 1)) := by
    unfold lackF
    rw [gw_sz, gw_eat _ _ _ _ _ hs1, gw_2]; omega
  have hs2 : sizeF (feedF (preF F b) (noonF F (F 1))) ≤ 6 := by rw [sz_feed]; exact hs1
  obtain ⟨g2, e3, l3⟩ : ∃ g2, feedF (gw (preF F b) g1 w) (noonF F (F 1)) = gw (feedF (preF F b) (noonF F (F 1))) g2 w ∧ feedF (preF F b) (noonF F (F 1)) 2 ≤ g2 := by
    refine ⟨_, by unfold feedF; rw [gw_sz, gw_eat _ _ _ _ _ hs1, gw_2, gw_u2, gw_o2], ?_⟩
    unfold feedF
    rw [up_s]; unfold cut; omega
  obtain ⟨g3, e4, l4⟩ : ∃ g3, postF (gw (feedF (preF F b) (noonF F (F 1))) g2 w) (noonF F (F 1)) = gw (postF (feedF (preF F b) (noonF F (F 1))) (noonF F (F 1))) g3 w ∧ postF (feedF (preF F b) (noonF F (F 1))) (noonF F (F 1)) 2 ≤ g3 := by
    generalize feedF (preF F b) (noonF F (F 1)) = H at *
    unfold postF
    rw [gw_sz]
    split
    · refine ⟨_, gw_rem H g2 w _ hs2, ?_⟩
      rw [fx_rem H (by omega)]; exact l3
    · refine ⟨_, by rw [gw_warm H g2 w _ hs2, gw_lose, gw_forg _ _ _ _ hs2], ?_⟩
      have e : loseF (warmF H (sizeF H)) 2 = H 2 - H 2 / 10 := by
        unfold loseF
        rw [fx_warm H (k := 2) (by omega) (by omega)]
        split
        · rw [up_n _ _ (by omega), up_n _ _ (by omega), up_s]
        · rw [up_n _ _ (by omega), up_s]
      rw [fx_forg _ (by omega), e]; omega
  refine ⟨g3, w + wantF (gw F g w) b, ?_, ?_, ?_⟩
  · unfold goF
    rw [gw_noon, gw_a F g w (k := 1) (by omega) (by omega), gw_31, e1, e3, e4, gw_u31, gw_up _ _ _ _ (by omega) (by omega), gw_o31]
  · unfold goF
    rw [up_n _ _ (by omega), up_n _ _ (by omega)]; exact l4
  · unfold wantF
    rw [e1, gw_noon, gw_a F g w (by omega) (by omega)]; exact e2
theorem gw_run {T : Nat → Int} (hs : sizeF T ≤ 6) {g g' : Int} (hg : g' ≤ g) : ∀ k, ∃ h w, runF (up T 2 g) k = gw (runF (up T 2 g') k) h w ∧ runF (up T 2 g') k 2 ≤ h := by
  have hs2 : sizeF (up T 2 g') ≤ 6 := by rw [sz_same (up_n T g' (by omega))]; exact hs
  intro k
  induction k with
  | zero =>
    refine ⟨g, T 31, ?_, by show up T 2 g' 2 ≤ g; rw [up_s]; exact hg⟩
    show up T 2 g = gw (up T 2 g') g (T 31)
    rw [gw_o2]
    funext j
    simp only [gw, up_app]
    by_cases hj : j = 31
    · subst hj; rfl
    · rw [if_neg hj]
  | succ k ih =>
    obtain ⟨h, w, e, hl⟩ := ih
    obtain ⟨h2, w2, e2, hl2, -⟩ := gw_go (F := runF (up T 2 g') k) h w false (by rw [sz_run]; exact hs2) hl
    exact ⟨h2, w2, by unfold runF; rw [e, e2], by unfold runF; exact hl2⟩
theorem wants_mono {T : Nat → Int} (hs : sizeF T ≤ 6) {g g' : Int} (hg : g' ≤ g) {k : Nat} (h : wants (up T 2 g') k = false) : wants (up T 2 g) k = false := by
  have hs2 : sizeF (up T 2 g') ≤ 6 := by rw [sz_same (up_n T g' (by omega))]; exact hs
  obtain ⟨x, w, e, hl⟩ := gw_run hs hg k
  obtain ⟨-, -, -, -, hw⟩ := gw_go (F := runF (up T 2 g') k) x w false (by rw [sz_run]; exact hs2) hl
  unfold wants at *
  rw [e]
  have := of_decide_eq_false h
  exact decide_eq_false (by omega)
def enough (T : Nat → Int) (n g : Nat) : Bool := decide (firstF (up T 2 (g : Int)) n = -1)
theorem enough_mono {T : Nat → Int} (hs : sizeF T ≤ 6) {n g g' : Nat} (hg : g' ≤ g) (h : enough T n g' = true) : enough T n g = true := by
  unfold enough at *
  have h1 := of_decide_eq_true h
  refine decide_eq_true ?_
  rcases fst_eq (p := wants (up T 2 (g' : Int))) n with ⟨-, h2⟩ | ⟨k, h2, -⟩
  · exact fst_no n fun k hk => wants_mono hs (by omega) (h2 k hk)
  · unfold firstF at h1; rw [h1] at h2; omega
def heldF (T : Nat → Int) (n : Nat) : Int := fst (enough T n) 1000
theorem sX10_leastHeld {G : WG} {C : CF} {I : MI} {P : MP} {L : ML} {t a n : Nat} {Y x : Int} (ht : TrialsL G C P t := by assumption) (hT : TF C I P (t + 6) := by assumption) (hF : FarmL G C P a := by assumption) (hI : FI (rdF I a) Y := by assumption) (hW : WayL C P a (rdF I a) := by assumption) (hat : a + 10 ≤ t ∨ t + 96 ≤ a := by omega) (hY : Y ≤ 999000 := by omega) (hx : x = (n : Int) := by first | rfl | omega) (hn : n ≤ 200 := by omega) : SX10_leastHeld G [.ref t, .ref a, .int (zI x)] C I P L (NI C (QT t (heldF (trF (rdF I a)) n) I C P L)) := by
  subst hx
  obtain ⟨h0, hK, -⟩ := id ht
  have hs : sizeF (trF (rdF I a)) ≤ 6 := by rw [trF_sz]; exact (sizeF_le hI).1
  generalize hq : QT t (heldF (trF (rdF I a)) n) I C P L = q
  refine en_I (by decide +kernel) (Nat.le_of_ble_eq_true rfl) ?_
  change Wd _ _ _ _ _ _ _ _ 0 [some _, some _, some _, none, none, none, none] [] _ _ _ _
  have loop : ∀ (d s u v : Nat) (i x y : Int) (z : Option Value) (I1 : MI) (P1 : MP), s + d = 20 → i = (s : Int) → x = (u : Int) → y = (v : Int) → u ≤ v → v ≤ 1000 → v - u ≤ 1000 / 2 ^ s → (∀ g, g < u → enough (trF (rdF I a)) n g = false) → (v = 1000 ∨ enough (trF (rdF I a)) n v = true) → outF I I1 (t + 6) → outP P P1 (t + 6) → TF C I1 P1 (t + 6) → Wd G yX10_leastHeld cX10_leastHeld 7 (some .int) 6 (C.2.1 + 0, C.2.2 + 0) (NI C q) 10 [some (.ref t), some (.ref a), some (.int (zI (n : Int))), some (.int (zI x)), some (.int (zI y)), some (.int (zI i)), z] [] C I1 P1 L := by
    intro d
    induction d using Nat.strongRecOn with
    | _ d ih =>
      intro s u v i x y z I1 P1 hd hi hx hy huv hv hdiff hno hyes hO hOP hTF
      have ht1 : TrialsL G C P1 t := ht.p hOP (Or.inr (Or.inr ⟨0, by omega, by omega⟩))
      have hF1 : FarmL G C P1 a := hF.p hOP (by omega)
      have eA : rdF I1 a = rdF I a := rdF_out hO (by omega)
      have hI1 : FI (rdF I1 a) Y := by rw [eA]; exact hI
      have hW1 : WayL C P1 a (rdF I1 a) := by rw [eA]; exact hW.p hOP (by omega)
      have fin : u = v → heldF (trF (rdF I a)) n = if 999 < u then -1 else (u : Int) := by
        intro huv2
        unfold heldF
        by_cases h9 : 999 < u
        · rw [if_pos h9, fst_no 1000 (fun k hk => hno k (by omega))]
        · rw [if_neg h9, fst_at (k := u) (by rcases hyes with h | h; · omega
                                             · rw [huv2]; exact h) hno 1000 (by omega)]
      have hend : s = 20 → u = v := by
        intro h20
        rw [h20] at hdiff
        have : (1000 : Nat) / 2 ^ 20 = 0 := by decide
        omega
      have hhalf : (v - u) / 2 ≤ 1000 / 2 ^ (s + 1) := by
        rw [Nat.pow_succ, ← Nat.div_div_eq_div_mul]
        exact Nat.div_le_div_right hdiff
      refine r_iload (pc := 10) dX10_leastHeld_10 rfl ?_
      refine r_bipush (pc := 12) dX10_leastHeld_12 (by decide) ?_
      refine r_icmp_ge (pc := 14) 61 dX10_leastHeld_14 (by decide) (by omega) (by omega) (fun h14 => ?_) (fun h14 => ?_)
      · skip
        refine r_iload_n (pc := 61) dX10_leastHeld_61 rfl ?_
        refine r_sipush (pc := 62) dX10_leastHeld_62 (by decide) ?_
        refine r_icmp_le (pc := 65) 72 dX10_leastHeld_65 (by decide) (by omega) (by omega) (fun h65 => ?_) (fun h65 => ?_)
        · skip
          refine r_iload_n (pc := 72) dX10_leastHeld_72 rfl ?_
          refine t_iret (pc := 73) dX10_leastHeld_73 rfl rfl ?_
          subst hq
          have huv2 : u = v := by
            by_cases h20 : s = 20
            · exact hend h20
            · omega
          exact ⟨by rw [fin huv2, if_neg (by omega)]; exact hx, hO, hOP, hTF, rfl⟩
        · skip
          refine r_iconst (pc := 68) dX10_leastHeld_68 ?_
          refine r_goto (pc := 69) 73 dX10_leastHeld_69 (by decide) ?_
          refine t_iret (pc := 73) dX10_leastHeld_73 rfl rfl ?_
          subst hq
          have huv2 : u = v := by
            by_cases h20 : s = 20
            · exact hend h20
            · omega
          exact ⟨by rw [fin huv2, if_pos (by omega)], hO, hOP, hTF, rfl⟩
      · skip
        refine r_iload_n (pc := 17) dX10_leastHeld_17 rfl ?_
        refine r_iload (pc := 18) dX10_leastHeld_18 rfl ?_
        refine r_icmp_ge (pc := 20) 61 dX10_leastHeld_20 (by decide) (by omega) (by omega) (fun h20 => ?_) (fun h20 => ?_)
        · skip
          refine r_iload_n (pc := 61) dX10_leastHeld_61 rfl ?_
          refine r_sipush (pc := 62) dX10_leastHeld_62 (by decide) ?_
          refine r_icmp_le (pc := 65) 72 dX10_leastHeld_65 (by decide) (by omega) (by omega) (fun h65 => ?_) (fun h65 => ?_)
          · skip
            refine r_iload_n (pc := 72) dX10_leastHeld_72 rfl ?_
            refine t_iret (pc := 73) dX10_leastHeld_73 rfl rfl ?_
            subst hq
            have huv2 : u = v := by
              by_cases h20 : s = 20
              · exact hend h20
              · omega
            exact ⟨by rw [fin huv2, if_neg (by omega)]; exact hx, hO, hOP, hTF, rfl⟩
          · skip
            refine r_iconst (pc := 68) dX10_leastHeld_68 ?_
            refine r_goto (pc := 69) 73 dX10_leastHeld_69 (by decide) ?_
            refine t_iret (pc := 73) dX10_leastHeld_73 rfl rfl ?_
            subst hq
            have huv2 : u = v := by
              by_cases h20 : s = 20
              · exact hend h20
              · omega
            exact ⟨by rw [fin huv2, if_pos (by omega)], hO, hOP, hTF, rfl⟩
        · skip
          refine r_iload_n (pc := 23) dX10_leastHeld_23 rfl ?_
          refine r_iload (pc := 24) dX10_leastHeld_24 rfl ?_
          refine r_iadd (pc := 26) dX10_leastHeld_26 ?_
          refine r_iconst (pc := 27) dX10_leastHeld_27 ?_
          refine r_idiv (pc := 28) dX10_leastHeld_28 (by omega) (by omega) (by omega) (by omega) ?_
          refine r_istore (pc := 29) dX10_leastHeld_29 (by decide) ?_
          refine r_aload_n (pc := 31) dX10_leastHeld_31 rfl ?_
          refine r_aload_n (pc := 32) dX10_leastHeld_32 rfl ?_
          refine r_iload_n (pc := 33) dX10_leastHeld_33 rfl ?_
          refine r_iload (pc := 34) dX10_leastHeld_34 rfl ?_
          refine i_V3ig (pc := 36) okX10_firstWant inX10_firstWant selX10_firstWant q577 dX10_leastHeld_36 (by assumption) rfl (by decide) (Nat.le_of_ble_eq_true rfl) (sX10_firstWant (n := n) (Y := Y)) (fun r3 I3 P3 L3 hq3 => ?_)
          obtain ⟨hr3, hO3, hOP3, hTF3, rfl⟩ := hq3
          have hm : (x + y) / 2 = (((u + v) / 2 : Nat) : Int) := by omega
          rw [eA, hm] at hr3
          have hr3r : -1 ≤ r3 ∧ r3 ≤ 200 := by
            rw [hr3]
            rcases fst_eq (p := wants (up (trF (rdF I a)) 2 (((u + v) / 2 : Nat) : Int))) n with ⟨h, -⟩ | ⟨k, h, h2, -⟩
            · unfold firstF; omega
            · unfold firstF; omega
          refine r_iconst (pc := 39) dX10_leastHeld_39 ?_
          refine r_icmp_ne (pc := 40) 50 dX10_leastHeld_40 (by decide) (by omega) (by omega) (fun h40 => ?_) (fun h40 => ?_)
          · skip
            refine r_iload (pc := 50) dX10_leastHeld_50 rfl ?_
            refine r_iconst (pc := 52) dX10_leastHeld_52 ?_
            refine r_iadd (pc := 53) dX10_leastHeld_53 ?_
            refine r_istore_n (pc := 54) dX10_leastHeld_54 (by decide) ?_
            refine r_iinc (pc := 55) dX10_leastHeld_55 rfl ?_
            refine r_goto (pc := 58) 10 dX10_leastHeld_58 (by decide) ?_
            refine ih (d - 1) (by omega) (s + 1) ((u + v) / 2 + 1) v _ _ _ _ _ _ (by omega) (by omega) (by omega) hy (by omega) (by omega) (by omega) (fun g hg => ?_) hyes (hO.tr hO3) (hOP.tr hOP3) hTF3
            cases hz : enough (trF (rdF I a)) n g with
            | false => rfl
            | true =>
              have h2 := enough_mono hs (show g ≤ (u + v) / 2 by omega) hz
              unfold enough at h2
              have := of_decide_eq_true h2
              omega
          · skip
            refine r_iload (pc := 43) dX10_leastHeld_43 rfl ?_
            refine r_istore (pc := 45) dX10_leastHeld_45 (by decide) ?_
            refine r_goto (pc := 47) 55 dX10_leastHeld_47 (by decide) ?_
            refine r_iinc (pc := 55) dX10_leastHeld_55 rfl ?_
            refine r_goto (pc := 58) 10 dX10_leastHeld_58 (by decide) ?_
            refine ih (d - 1) (by omega) (s + 1) u ((u + v) / 2) _ _ _ _ _ _ (by omega) (by omega) hx hm (by omega) (by omega) (by omega) hno (Or.inr ?_) (hO.tr hO3) (hOP.tr hOP3) hTF3
            unfold enough
            exact decide_eq_true (by omega)
  refine r_iconst (pc := 0) dX10_leastHeld_0 ?_
  refine r_istore_n (pc := 1) dX10_leastHeld_1 (by decide) ?_
  refine r_sipush (pc := 2) dX10_leastHeld_2 (by decide) ?_
  refine r_istore (pc := 5) dX10_leastHeld_5 (by decide) ?_
  refine r_iconst (pc := 7) dX10_leastHeld_7 ?_
  refine r_istore (pc := 8) dX10_leastHeld_8 (by decide) ?_
  exact loop 20 0 0 1000 _ _ _ _ I P (by omega) (by omega) (by omega) (by omega) (by omega) (by omega) (by decide) (fun g hg => by omega) (Or.inl rfl) (outF.rf I _) (outP.rf P _) hT


