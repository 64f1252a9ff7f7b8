/-! plan, chance, cleared -/
theorem YI.tri {G : WG} {C : CF} {I I1 : MI} {P P1 : MP} {Y : Int} (h : YI G C I P Y) (hi : ∀ x, (x < gB G + 331 ∨ gB G + 427 ≤ x) → I1 x = I x) (hp : ∀ x, (x < gB G + 331 ∨ gB G + 427 ≤ x) → P1 x = P x) (hT : TrialsL G C P1 (gB G + 331)) (hTF : ∀ i, 0 ≤ i → i < 9 → TF C I1 P1 (gB G + 331 + 6 + 10 * i)) (h4 : I1 (gB G + 331 + 4) 0 = 0) (h5 : I1 (gB G + 331 + 5) 0 = 0) : YI G C I1 P1 Y := by
  obtain ⟨⟨y1, y2, y3, y4, y5, y6, y7, y8, y9, yr, yl1, yl2, yl3, yl4, yt, yk⟩, ⟨l1, l2, l3, l4⟩, ⟨w1, w2, w3, w4⟩, hU, ht, ⟨n, hn⟩, hto, hs0, hg0, hx, hst, hlo⟩ := h
  have e1 : rdL I1 (gB G + 11) = rdL I (gB G + 11) := rdL_eqr (fun x hx => hi x (by omega))
  have e2 : rdL I1 (gB G + 91) = rdL I (gB G + 91) := rdL_eqr (fun x hx => hi x (by omega))
  have e3 : rdL I1 (gB G + 171) = rdL I (gB G + 171) := rdL_eqr (fun x hx => hi x (by omega))
  have e4 : rdL I1 (gB G + 251) = rdL I (gB G + 251) := rdL_eqr (fun x hx => hi x (by omega))
  have e0 : P1 (gB G) = P (gB G) := hp _ (by omega)
  have e5 : P1 (gB G + 5) = P (gB G + 5) := hp _ (by omega)
  unfold YI
  rw [e1, e2, e3, e4]
  exact ⟨⟨y1, y2, by rw [e0]; exact y3, by rw [e0]; exact y4, by rw [e0]; exact y5, by rw [e0]; exact y6, by rw [e0]; exact y7, by rw [e0]; exact y8, by rw [e0]; exact y9, yr.eqp (hp _ (by omega)), yl1.eqp (fun x hx => hp x (by omega)), yl2.eqp (fun x hx => hp x (by omega)), yl3.eqp (fun x hx => hp x (by omega)), yl4.eqp (fun x hx => hp x (by omega)), hT, yk.1, by rw [e5]; exact yk.2⟩, ⟨l1, l2, l3, l4⟩, ⟨w1.eqp (fun x hx => hp x (by omega)), w2.eqp (fun x hx => hp x (by omega)), w3.eqp (fun x hx => hp x (by omega)), w4.eqp (fun x hx => hp x (by omega))⟩, hU, hTF, ⟨n, by rw [hi _ (by omega)]; exact hn.1, hn.2.1, by rw [hi _ (by omega)]; exact hn.2.2⟩, by rw [hi _ (by omega)]; exact hto, h4, h5, TxtL_eqr hx hlo (fun x hx => hi x (by omega)), StatL_eqr hst hlo (fun x hx => hi x (by omega)), hlo⟩
theorem rdY_tri {G : WG} {I I1 : MI} {L : ML} (hi : ∀ x, (x < gB G + 331 ∨ gB G + 427 ≤ x) → I1 x = I x) : rdY G I1 L = rdY G I L := by
  unfold rdY
  rw [rdL_eqr (I1 := I1) (I := I) (l := gB G + 11) (fun x hx => hi x (by omega)), rdL_eqr (I1 := I1) (I := I) (l := gB G + 171) (fun x hx => hi x (by omega)), rdL_eqr (I1 := I1) (I := I) (l := gB G + 251) (fun x hx => hi x (by omega)), hi (gB G + 2) (by omega), hi (gB G + 1) (by omega), hi (gB G) (by omega)]
theorem FI_trF {F : Nat → Int} {Y : Int} (h : FI F Y) : FI (trF F) Y := by
  have hz := sizeF_le h
  obtain ⟨h0, h1, h2, h3, h4, h5, h6, hf⟩ := h
  have a : ∀ k, k < 7 → trF F k = F k := fun k hk => trF_a F (by omega) hz.1
  refine ⟨by rw [a 0 (by omega)]; exact h0, by rw [a 1 (by omega)]; exact h1, by rw [a 2 (by omega)]; exact h2, by rw [a 3 (by omega)]; exact h3, by rw [a 4 (by omega)]; exact h4, by rw [a 5 (by omega)]; exact h5, by rw [a 6 (by omega)]; exact h6, fun f hff => ?_⟩
  rw [a 6 (by omega)]
  by_cases hl : f < sizeF F
  · have q : ∀ j, j < 4 → trF F (7 + 4 * f + j) = F (7 + 4 * f + j) := fun j hj => tr_a _ (by omega)
    have q0 := q 0 (by omega)
    have q1 := q 1 (by omega)
    have q2 := q 2 (by omega)
    have q3 := q 3 (by omega)
    rw [show 7 + 4 * f + 1 = 8 + 4 * f by omega] at q1
    rw [show 7 + 4 * f + 2 = 9 + 4 * f by omega] at q2
    rw [show 7 + 4 * f + 3 = 10 + 4 * f by omega] at q3
    rw [q1, q2, q3, show trF F (7 + 4 * f) = F (7 + 4 * f) from q0]
    exact hf f hff
  · have q : ∀ j, j < 4 → trF F (7 + 4 * f + j) = 0 := fun j hj => tr_d _ (by omega)
    have q0 := q 0 (by omega)
    have q1 := q 1 (by omega)
    have q2 := q 2 (by omega)
    have q3 := q 3 (by omega)
    rw [show 7 + 4 * f + 1 = 8 + 4 * f by omega] at q1
    rw [show 7 + 4 * f + 2 = 9 + 4 * f by omega] at q2
    rw [show 7 + 4 * f + 3 = 10 + 4 * f by omega] at q3
    rw [q1, q2, q3, show trF F (7 + 4 * f) = 0 from q0]
    refine ⟨by omega, by omega, by omega, by omega, fun h => ?_⟩
    exfalso; omega
def pin (s : PS) : Prop := -1 ≤ s.1 ∧ s.1 ≤ 9999
theorem planJ_in {go : (Nat → Int) → PS → PS} {T : Nat → Int} {D : Nat} {Y : Int} (hT : FI T Y) (hgo : ∀ T' s, FI T' (Y + 1) → pin s → pin (go T' s)) : ∀ j, j ≤ 5 → ∀ s, pin s → pin (planJ go T D j s) := by
  intro j
  induction j with
  | zero => intro _ s hs; exact hs
  | succ j ih =>
    intro hj s hs
    unfold planJ
    have h1 := ih (by omega) s hs
    split
    · exact hgo _ _ (FI_go (FI_jobs hT (by omega) _) false) h1
    · exact h1
theorem planR_in : ∀ (k D : Nat) (T : Nat → Int) (Y : Int) (s : PS), FI T Y → pin s → pin (planR k D T s) := by
  intro k
  induction k with
  | zero =>
    intro D T Y s hT hs
    unfold planR
    split
    · have := hT.2.2.1; unfold pin; show -1 ≤ T 2 ∧ T 2 ≤ 9999; omega
    · exact hs
  | succ k ih =>
    intro D T Y s hT hs
    unfold planR
    exact planJ_in hT (fun T' s' h1 h2 => ih _ T' _ s' h1 h2) _ (by split <;> omega) s hs
theorem planT_in {T : Nat → Int} {Y : Int} (m : Nat) (a b : Nat → Int) (h : FI T Y) : -1 ≤ (planT T m a b).1 ∧ (planT T m a b).1 ≤ 9999 := planR_in m 0 T Y _ h ⟨by show (-1 : Int) ≤ -1; omega, by show (-1 : Int) ≤ 9999; omega⟩
def planS (S : YS) (m i : Int) (a b : Nat → Int) : Int × YS := if (0 ≤ m ∧ m ≤ 5) ∧ -1 ≤ i then (if (planT (trF S.1.1) m.toNat a b).1 = -1 ∨ i = -1 then (planT (trF S.1.1) m.toNat a b).1 else if i < m then (planT (trF S.1.1) m.toNat a b).2.2 i.toNat else -5, S) else (-10, yB S)
theorem sX11_plan {G : WG} {C : CF} {I : MI} {P : MP} {L : ML} {Y m i : Int} (h : YI G C I P Y := by assumption) (hY : Y ≤ 900000 := by omega) (hm' : iR m := by omega) (hi' : iR i := by omega) : SX11_plan G [.ref (gB G), .int (zI m), .int (zI i)] C I P L (NI C (fun r I1 P1 L1 => ∃ a b, QY G (planS (rdY G I L) m i a b).1 (planS (rdY G I L) m i a b).2 Y C r I1 P1 L1)) := by
  have hyl := h.1
  obtain ⟨hK, hK4, hP0, hP1, hP2, hP3, hP4, hP5, hP6, hr, hl, hl2, hl3, hl4, htr, hKd⟩ := id hyl
  have hKl := hl.2.1
  have hKt := htr.2.1
  have hPb : P (gB G + 11) 1 = some (gB G + 12) := hl.2.2.2.2.1
  have hb : BooksL G C P (gB G + 12) := hl.2.2.2.2.2.2.1
  have hKb := hb.2.1
  have hBI : BI (rdB I (gB G + 12)) := h.2.1.1.2.1
  have hPf : P (gB G + 11) 0 = some (gB G + 21) := hl.2.2.2.1
  have hf : FarmL G C P (gB G + 21) := hl.2.2.2.2.2.2.2.1
  have hKf := hf.2.1
  have hF : FI (rdF I (gB G + 21)) Y := h.2.1.1.1
  have hW : WayL C P (gB G + 21) (rdF I (gB G + 21)) := h.2.2.1.1.1
  have hs6 := hF.2.2.2.2.2.2.1
  have e10 : I (gB G + 21) 10 = rdF I (gB G + 21) 6 := at_10 I (gB G + 21)
  have eS : (rdY G I L).1.1 6 = rdF I (gB G + 21) 6 := rfl
  have hw4 := hBI.2.2.2.1
  have e3 : I (gB G + 12) 3 = ((rdB I (gB G + 12) 90).toNat : Int) := by rw [ab_3 I (gB G + 12)]; omega
  have e3' : I (gB G + 12) 3 = rdB I (gB G + 12) 90 := ab_3 I (gB G + 12)
  have eS3 : (rdY G I L).1.2.1 90 = rdB I (gB G + 12) 90 := rfl
  have hT8 : ∀ i, 0 ≤ i → i < 8 → TF C I P (gB G + 331 + 16 + 10 * i) := fun i _ hi => by
    have q := h.2.2.2.2.1 (i + 1) (by omega) (by omega)
    rw [show gB G + 331 + 6 + 10 * (i + 1) = gB G + 331 + 16 + 10 * i by omega] at q
    exact q
  have hT0 : TF C I P (gB G + 331 + 6) := h.2.2.2.2.1 0 (by omega) (by omega)
  have hpin := planT_in (T := trF (rdF I (gB G + 21))) m.toNat (I (gB G + 331 + 2)) (I (gB G + 331 + 3)) (FI_trF hF)
  generalize hpt : planT (trF (rdF I (gB G + 21))) m.toNat (I (gB G + 331 + 2)) (I (gB G + 331 + 3)) = PT at hpin
  have hpt2 : planT (trF (rdY G I L).1.1) m.toNat (I (gB G + 331 + 2)) (I (gB G + 331 + 3)) = PT := hpt
  refine en_I (by decide +kernel) (Nat.le_of_ble_eq_true rfl) ?_
  change Wd _ _ _ _ _ _ _ _ 0 [some _, some _, some _, none] [] _ _ _ _
  refine r_iload_n (pc := 0) dX11_plan_0 rfl ?_
  refine r_iconst (pc := 1) dX11_plan_1 ?_
  refine r_iconst (pc := 2) dX11_plan_2 ?_
  refine i_S3ix (pc := 3) okX11_within staX11_within q317 dX11_plan_3 (by decide) (Nat.le_of_ble_eq_true rfl) (sX11_within) ?_
  refine r_if_eq (pc := 6) 14 dX11_plan_6 (by decide) (by first | omega | (split <;> decide)) (fun h6 => ?_) (fun h6 => ?_)
  · skip
    refine r_aload_n (pc := 14) dX11_plan_14 rfl ?_
    refine r_bipush (pc := 15) dX11_plan_15 (by decide) ?_
    refine i_V1ix (pc := 17) okX11_refuseBad inX11_refuseBad selX11_refuseBad q320 dX11_plan_17 (by assumption) rfl (by decide) (Nat.le_of_ble_eq_true rfl) (sX11_refuseBad) ?_
    refine t_iret (pc := 20) dX11_plan_20 rfl rfl ?_
    have hz : ¬ ((0 ≤ m ∧ m ≤ 5) ∧ -1 ≤ i) := by
      first
      | exact fun hz => (wf h6) hz.1
      | exact fun hz => by omega
    refine ⟨I (gB G + 331 + 2), I (gB G + 331 + 3), ?_⟩
    unfold planS
    rw [if_neg hz]
    exact QY_bad h
  · skip
    refine r_iload_n (pc := 9) dX11_plan_9 rfl ?_
    refine r_iconst (pc := 10) dX11_plan_10 ?_
    refine r_icmp_ge (pc := 11) 21 dX11_plan_11 (by decide) (by first | omega | (split <;> decide)) (by first | omega | (split <;> decide)) (fun h11 => ?_) (fun h11 => ?_)
    · skip
      refine r_aload_n (pc := 21) dX11_plan_21 rfl ?_
      refine r_getP (pc := 22) dX11_plan_22 frX11_56 (by assumption) (by assumption) ?_
      refine r_aload_n (pc := 25) dX11_plan_25 rfl ?_
      refine r_getP (pc := 26) dX11_plan_26 frX11_40 (by assumption) (by assumption) ?_
      refine r_getP (pc := 29) dX11_plan_29 frX11_72 (by assumption) (by assumption) ?_
      refine r_iload_n (pc := 32) dX11_plan_32 rfl ?_
      have h1 := wt h6
      refine i_V2ig (pc := 33) okX10_bestPlan inX10_bestPlan selX10_bestPlan q529 dX11_plan_33 (by assumption) rfl (by decide) (Nat.le_of_ble_eq_true rfl) (sX10_bestPlan (Y := Y) (m := m.toNat)) (fun r3 I3 P3 L3 hq3 => ?_)
      rw [hpt] at hq3
      obtain ⟨hr3, hS3, hO3, hOP3, hTr3, hTF3, rfl⟩ := hq3
      have hir : iR r3 := by omega
      have hi3 : ∀ x, (x < gB G + 331 ∨ gB G + 427 ≤ x) → I3 x = I x := fun x hx => hO3 x (by omega) (by omega) (by omega) (by omega)
      have hp3 : ∀ x, (x < gB G + 331 ∨ gB G + 427 ≤ x) → P3 x = P x := fun x hx => hOP3 x (by omega)
      have hYI3 : YI G C I3 P3 Y := by
        refine h.tri hi3 hp3 hTr3 (fun i h1 h2 => ?_) (by rw [hO3 _ (by omega) (by omega) (by omega) (by omega)]; exact h.2.2.2.2.2.2.2.1) (by rw [hO3 _ (by omega) (by omega) (by omega) (by omega)]; exact h.2.2.2.2.2.2.2.2.1)
        by_cases hi0 : i = 0
        · subst hi0; exact TF_eqr hT0 (fun x hx => hO3 x (by omega) (by omega) (by omega) (by omega)) (fun x hx => hOP3 x (by omega))
        · have q := hTF3 (i - 1) (by omega) (by omega)
          rw [show gB G + 331 + 16 + 10 * (i - 1) = gB G + 331 + 6 + 10 * i by omega] at q
          exact q
      have hR3 : rdY G I3 L = rdY G I L := rdY_tri hi3
      have hP5' := hYI3.1.2.2.2.2.2.2.2.1
      have hpl : I3 (gB G + 331 + 3) = PT.2.2 := by rw [← hS3]; rfl
      refine r_istore_n (pc := 36) dX11_plan_36 (by decide) ?_
      refine r_iload_n (pc := 37) dX11_plan_37 rfl ?_
      refine r_iconst (pc := 38) dX11_plan_38 ?_
      refine r_icmp_eq (pc := 39) 47 dX11_plan_39 (by decide) (by first | omega | (split <;> decide)) (by first | omega | (split <;> decide)) (fun h39 => ?_) (fun h39 => ?_)
      · skip
        refine r_iload_n (pc := 47) dX11_plan_47 rfl ?_
        refine t_iret (pc := 48) dX11_plan_48 rfl rfl ?_
        refine ⟨I (gB G + 331 + 2), I (gB G + 331 + 3), ?_⟩
        unfold planS
        rw [if_pos ⟨h1, by omega⟩, hpt2, if_pos (by omega)]
        exact ⟨hr3, hR3, hYI3⟩
      · skip
        refine r_iload_n (pc := 42) dX11_plan_42 rfl ?_
        refine r_iconst (pc := 43) dX11_plan_43 ?_
        refine r_icmp_ne (pc := 44) 49 dX11_plan_44 (by decide) (by first | omega | (split <;> decide)) (by first | omega | (split <;> decide)) (fun h44 => ?_) (fun h44 => ?_)
        · skip
          refine r_iload_n (pc := 49) dX11_plan_49 rfl ?_
          refine r_iload_n (pc := 50) dX11_plan_50 rfl ?_
          refine r_icmp_ge (pc := 51) 65 dX11_plan_51 (by decide) (by first | omega | (split <;> decide)) (by first | omega | (split <;> decide)) (fun h51 => ?_) (fun h51 => ?_)
          · skip
            refine r_bipush (pc := 65) dX11_plan_65 (by decide) ?_
            refine t_iret (pc := 67) dX11_plan_67 rfl rfl ?_
            refine ⟨I (gB G + 331 + 2), I (gB G + 331 + 3), ?_⟩
            unfold planS
            rw [if_pos ⟨h1, by omega⟩, hpt2, if_neg (by omega), if_neg (by omega)]
            exact ⟨rfl, hR3, hYI3⟩
          · skip
            refine r_aload_n (pc := 54) dX11_plan_54 rfl ?_
            refine r_getP (pc := 55) dX11_plan_55 frX11_56 (by assumption) (by assumption) ?_
            refine r_iload_n (pc := 58) dX11_plan_58 rfl ?_
            refine i_V1ix (pc := 59) okX10_plannedJob inX10_plannedJob selX10_plannedJob q554 dX11_plan_59 (by assumption) rfl (by decide) (Nat.le_of_ble_eq_true rfl) (sX10_plannedJob (j := i.toNat)) ?_
            refine r_goto (pc := 62) 67 dX11_plan_62 (by decide) ?_
            refine t_iret (pc := 67) dX11_plan_67 rfl rfl ?_
            refine ⟨I (gB G + 331 + 2), I (gB G + 331 + 3), ?_⟩
            unfold planS
            rw [if_pos ⟨h1, by omega⟩, hpt2, if_neg (by omega), if_pos (by omega), hpl]
            exact ⟨rfl, hR3, hYI3⟩
        · skip
          refine r_iload_n (pc := 47) dX11_plan_47 rfl ?_
          refine t_iret (pc := 48) dX11_plan_48 rfl rfl ?_
          refine ⟨I (gB G + 331 + 2), I (gB G + 331 + 3), ?_⟩
          unfold planS
          rw [if_pos ⟨h1, by omega⟩, hpt2, if_pos (by omega)]
          exact ⟨hr3, hR3, hYI3⟩
    · skip
      refine r_aload_n (pc := 14) dX11_plan_14 rfl ?_
      refine r_bipush (pc := 15) dX11_plan_15 (by decide) ?_
      refine i_V1ix (pc := 17) okX11_refuseBad inX11_refuseBad selX11_refuseBad q320 dX11_plan_17 (by assumption) rfl (by decide) (Nat.le_of_ble_eq_true rfl) (sX11_refuseBad) ?_
      refine t_iret (pc := 20) dX11_plan_20 rfl rfl ?_
      have hz : ¬ ((0 ≤ m ∧ m ≤ 5) ∧ -1 ≤ i) := by
        first
        | exact fun hz => (wf h6) hz.1
        | exact fun hz => by omega
      refine ⟨I (gB G + 331 + 2), I (gB G + 331 + 3), ?_⟩
      unfold planS
      rw [if_neg hz]
      exact QY_bad h
theorem calm_in {p : Int} (hp : 0 ≤ p ∧ p ≤ 10) : ∀ (y : Nat) (T : Nat → Int), 0 ≤ calmR p y T ∧ calmR p y T ≤ 10 ^ (noonsF T y).toNat := by
  intro y
  induction y with
  | zero => intro T; unfold calmR noonsF; exact ⟨by decide, by decide⟩
  | succ y ih =>
    intro T
    have n0 := (noonsF_in (goF T true) y).1
    have n1 := (noonsF_in (goF T false) y).1
    have g0 := noons_go T true y
    have g1 := noons_go T false y
    obtain ⟨a1, a2⟩ := ih (goF T true)
    obtain ⟨b1, b2⟩ := ih (goF T false)
    unfold calmR
    by_cases hn : noonF T (T 1) = true
    · rw [if_pos hn] at g0 g1
      rw [if_pos hn, show (noonsF T (y + 1)).toNat = (noonsF (goF T false) y).toNat + 1 by omega, Int.pow_succ]
      rw [show (noonsF (goF T true) y).toNat = (noonsF (goF T false) y).toNat by omega] at a2
      generalize (10 : Int) ^ (noonsF (goF T false) y).toNat = M at a2 b2
      have m0 : 0 ≤ M := by omega
      have c1 : 0 ≤ p * calmR p y (goF T true) := Int.mul_nonneg hp.1 a1
      have c2 : p * calmR p y (goF T true) ≤ p * M := Int.mul_le_mul_of_nonneg_left a2 hp.1
      have c3 : 0 ≤ (10 - p) * calmR p y (goF T false) := Int.mul_nonneg (by omega) b1
      have c4 : (10 - p) * calmR p y (goF T false) ≤ (10 - p) * M := Int.mul_le_mul_of_nonneg_left b2 (by omega)
      have c5 : (10 - p) * M = 10 * M - p * M := Int.sub_mul 10 p M
      have c6 : 0 ≤ p * M := Int.mul_nonneg hp.1 m0
      have c7 : 0 ≤ (10 - p) * M := Int.mul_nonneg (by omega) m0
      split <;> split <;> omega
    · rw [if_neg hn] at g0 g1
      rw [if_neg hn, show (noonsF T (y + 1)).toNat = (noonsF (goF T false) y).toNat by omega]
      generalize (10 : Int) ^ (noonsF (goF T false) y).toNat = M at b2
      split <;> omega
theorem gcd_pos1 : ∀ (d : Nat) (a b : Int), 0 < a → 0 ≤ b → 0 < gcdR d a b := by
  intro d
  induction d with
  | zero => intro a b ha _; exact ha
  | succ d ih =>
    intro a b ha hb
    unfold gcdR
    split
    · exact ha
    · exact ih b (a % b) (by omega) (Int.emod_nonneg a (by omega))
theorem gcd_pos2 (d : Nat) {a b : Int} (hb : 0 < b) : 0 < gcdR (d + 1) a b := by
  unfold gcdR
  rw [if_neg (by omega)]
  exact gcd_pos1 d b _ hb (Int.emod_nonneg a (by omega))
theorem ten_le {k : Nat} (h : k ≤ 8) : (1 : Int) ≤ 10 ^ k ∧ (10 : Int) ^ k ≤ 100000000 := by
  match k, h with
  | 0, _ => decide
  | 1, _ => decide
  | 2, _ => decide
  | 3, _ => decide
  | 4, _ => decide
  | 5, _ => decide
  | 6, _ => decide
  | 7, _ => decide
  | 8, _ => decide
  | k + 9, h => exact absurd h (by omega)
def yFr (S : YS) (a b : Int) : YS := (S.1, S.2.1, S.2.2.1, S.2.2.2.1, S.2.2.2.2.1, S.2.2.2.2.2.1, S.2.2.2.2.2.2.1, S.2.2.2.2.2.2.2.1, S.2.2.2.2.2.2.2.2.1, a, b)
def frS (S : YS) (a b : Int) : YS := yFr S (a / gcdR 100 a b) (b / gcdR 100 a b)
def chanceS (S : YS) (n p : Int) : Int × YS := if (0 ≤ n ∧ n ≤ 60) ∧ (0 ≤ p ∧ p ≤ 10) then (if noonsF S.1.1 n.toNat ≤ 8 then (1, frS S (calmR p n.toNat (trF S.1.1)) (10 ^ (noonsF S.1.1 n.toNat).toNat)) else (-3, yN S)) else (-2, yB S)
theorem rdY_fr {G : WG} {I : MI} {L : ML} {a b : Int} : rdY G I (u2 (u2 L (gB G) 11 a) (gB G) 12 b) = yFr (rdY G I L) a b := by
  unfold rdY yFr
  rw [u2_s, u2_k _ _ _ _ (by decide), u2_s]
theorem sX11_cleared {G : WG} {C : CF} {I : MI} {P : MP} {L : ML} {Y : Int} (h : YI G C I P Y := by assumption) (hY : Y ≤ 900000 := by omega) : SX11_cleared G [.ref (gB G)] C I P L (NI C (QY G (payF (rdY G I L).1.1 (rdY G I L).1.2.1) (rdY G I L) Y C)) := by
  have hyl := h.1
  obtain ⟨hK, hK4, hP0, hP1, hP2, hP3, hP4, hP5, hP6, hr, hl, hl2, hl3, hl4, htr, hKd⟩ := id hyl
  have hKl := hl.2.1
  have hKt := htr.2.1
  have hPb : P (gB G + 11) 1 = some (gB G + 12) := hl.2.2.2.2.1
  have hb : BooksL G C P (gB G + 12) := hl.2.2.2.2.2.2.1
  have hKb := hb.2.1
  have hBI : BI (rdB I (gB G + 12)) := h.2.1.1.2.1
  have hPf : P (gB G + 11) 0 = some (gB G + 21) := hl.2.2.2.1
  have hf : FarmL G C P (gB G + 21) := hl.2.2.2.2.2.2.2.1
  have hKf := hf.2.1
  have hF : FI (rdF I (gB G + 21)) Y := h.2.1.1.1
  have hW : WayL C P (gB G + 21) (rdF I (gB G + 21)) := h.2.2.1.1.1
  have hs6 := hF.2.2.2.2.2.2.1
  have e10 : I (gB G + 21) 10 = rdF I (gB G + 21) 6 := at_10 I (gB G + 21)
  have eS : (rdY G I L).1.1 6 = rdF I (gB G + 21) 6 := rfl
  have hw4 := hBI.2.2.2.1
  have e3 : I (gB G + 12) 3 = ((rdB I (gB G + 12) 90).toNat : Int) := by rw [ab_3 I (gB G + 12)]; omega
  have e3' : I (gB G + 12) 3 = rdB I (gB G + 12) 90 := ab_3 I (gB G + 12)
  have eS3 : (rdY G I L).1.2.1 90 = rdB I (gB G + 12) 90 := rfl
  have hLI := h.2.1.1
  have hs0 := h.2.2.2.2.2.2.2.1
  have hg0 := h.2.2.2.2.2.2.2.2.1
  refine en_I (by decide +kernel) (Nat.le_of_ble_eq_true rfl) ?_
  change Wd _ _ _ _ _ _ _ _ 0 [some _] [] _ _ _ _
  refine r_aload_n (pc := 0) dX11_cleared_0 rfl ?_
  refine r_getP (pc := 1) dX11_cleared_1 frX11_56 (by assumption) (by assumption) ?_
  refine r_aload_n (pc := 4) dX11_cleared_4 rfl ?_
  refine r_getP (pc := 5) dX11_cleared_5 frX11_40 (by assumption) (by assumption) ?_
  refine i_V1ig (pc := 8) okX10_fewestPayments inX10_fewestPayments selX10_fewestPayments q635 dX11_cleared_8 (by assumption) rfl (by decide) (Nat.le_of_ble_eq_true rfl) (sX10_fewestPayments (Y := Y)) (fun r3 I3 P3 L3 hq3 => ?_)
  obtain ⟨hr3, hO3, h43, h53, rfl, rfl⟩ := hq3
  refine t_iret (pc := 11) dX11_cleared_11 rfl rfl ?_
  have hi3 : ∀ x, (x < gB G + 331 ∨ gB G + 427 ≤ x) → I3 x = I x := fun x hx => hO3 x (by omega) (by omega)
  refine ⟨hr3, rdY_tri hi3, h.tri hi3 (fun _ _ => rfl) htr (fun i h1 h2 => TF_eqr (h.2.2.2.2.1 i h1 h2) (fun x hx => hO3 x (by omega) (by omega)) (fun _ _ => rfl)) h43 h53⟩


