/-! type, clear -/
theorem YI.read {G : WG} {C : CF} {I I1 : MI} {P : MP} {Y : Int} {n : Nat} (h : YI G C I P Y) (hi : ∀ x, x ≠ gB G + 1 → x ≠ gB G + 1 + 1 → I1 x = I x) (hn : ReadI I1 (gB G + 1) n) : YI G C I1 P Y := by
  obtain ⟨hy, ⟨l1, l2, l3, l4⟩, ⟨w1, w2, w3, w4⟩, hU, ht, -, hto, hs0, hg0, hx, hst, hlo⟩ := h
  have e1 : rdL I1 (gB G + 11) = rdL I (gB G + 11) := rdL_eqr (fun x hx => hi x (by omega) (by omega))
  have e2 : rdL I1 (gB G + 91) = rdL I (gB G + 91) := rdL_eqr (fun x hx => hi x (by omega) (by omega))
  have e3 : rdL I1 (gB G + 171) = rdL I (gB G + 171) := rdL_eqr (fun x hx => hi x (by omega) (by omega))
  have e4 : rdL I1 (gB G + 251) = rdL I (gB G + 251) := rdL_eqr (fun x hx => hi x (by omega) (by omega))
  unfold YI
  rw [e1, e2, e3, e4]
  exact ⟨hy, ⟨l1, l2, l3, l4⟩, ⟨w1, w2, w3, w4⟩, hU, fun i h1 h2 => TF_eqr (ht i h1 h2) (fun x hx => hi x (by omega) (by omega)) (fun _ _ => rfl), ⟨n, hn⟩, by rw [hi _ (by omega) (by omega)]; exact hto, by rw [hi _ (by omega) (by omega)]; exact hs0, by rw [hi _ (by omega) (by omega)]; exact hg0, TxtL_eqr hx hlo (fun x hx => hi x (by omega) (by omega)), StatL_eqr hst hlo (fun x hx => hi x (by omega) (by omega)), hlo⟩
def yT (S : YS) (b : Nat → Int) (n : Int) : YS := (S.1, S.2.1, S.2.2.1, b, n, S.2.2.2.2.2)
theorem rdY_read {G : WG} {I I1 : MI} {L : ML} (hi : ∀ x, x ≠ gB G + 1 → x ≠ gB G + 1 + 1 → I1 x = I x) : rdY G I1 L = yT (rdY G I L) (I1 (gB G + 2)) (I1 (gB G + 1) 2) := by
  unfold rdY yT
  rw [rdL_eqr (I1 := I1) (I := I) (l := gB G + 11) (fun x hx => hi x (by omega) (by omega)), rdL_eqr (I1 := I1) (I := I) (l := gB G + 171) (fun x hx => hi x (by omega) (by omega)), rdL_eqr (I1 := I1) (I := I) (l := gB G + 251) (fun x hx => hi x (by omega) (by omega)), hi (gB G) (by omega) (by omega)]
theorem sX11_clear {G : WG} {C : CF} {I : MI} {P : MP} {L : ML} {Y : Int} (h : YI G C I P Y := by assumption) : SX11_clear G [.ref (gB G)] C I P L (NI C (QY G (rdY G I L).2.2.2.2.1 (yT (rdY G I L) (rdY G I L).2.2.2.1 0) Y C)) := by
  have hyl := h.1
  obtain ⟨hK, hK4, hP0, hP1, hP2, hP3, hP4, hP5, hP6, hr, -⟩ := id hyl
  have hKr := hr.2.1
  obtain ⟨n, hn⟩ := h.2.2.2.2.2.1
  refine en_I (by decide +kernel) (Nat.le_of_ble_eq_true rfl) ?_
  change Wd _ _ _ _ _ _ _ _ 0 [some _, none] [] _ _ _ _
  refine r_aload_n (pc := 0) dX11_clear_0 rfl ?_
  refine r_getP (pc := 1) dX11_clear_1 frX11_10 (by assumption) (by assumption) ?_
  refine r_getI (pc := 4) dX11_clear_4 frX11_117 (by assumption) ?_
  refine r_istore_n (pc := 7) dX11_clear_7 (by decide) ?_
  refine r_aload_n (pc := 8) dX11_clear_8 rfl ?_
  refine r_getP (pc := 9) dX11_clear_9 frX11_10 (by assumption) (by assumption) ?_
  refine r_iconst (pc := 12) dX11_clear_12 ?_
  refine r_putI (pc := 13) dX11_clear_13 fwX11_117 (by assumption) (by omega) ?_
  refine r_iload_n (pc := 16) dX11_clear_16 rfl ?_
  refine t_iret (pc := 17) dX11_clear_17 rfl rfl ?_
  have hO : ∀ x, x ≠ gB G + 1 → x ≠ gB G + 1 + 1 → (u2 I (gB G + 1) 2 0) x = I x := fun x h1 _ => by funext j; exact u2_a _ _ _ _ h1
  have eb : (u2 I (gB G + 1) 2 0) (gB G + 2) = I (gB G + 2) := by funext j; exact u2_a _ _ _ _ (by omega)
  refine ⟨rfl, ?_, h.read (n := 0) hO ⟨u2_s _ _ _ _, by omega, fun j hj => ?_⟩⟩
  · rw [rdY_read hO, eb, u2_s]; rfl
  · rw [u2_a _ _ _ _ (by omega)]; exact hn.2.2 j hj
def typeS (S : YS) (c : Int) : Int × YS := if 0 ≤ c ∧ c ≤ 127 then (if S.2.2.2.2.1 < 150 then (S.2.2.2.2.1 + 1, yT S (up S.2.2.2.1 S.2.2.2.2.1.toNat c) (S.2.2.2.2.1 + 1)) else (-4, yF S)) else (-2, yB S)
theorem sX11_type {G : WG} {C : CF} {I : MI} {P : MP} {L : ML} {Y c : Int} (h : YI G C I P Y := by assumption) (hc : iR c := by omega) : SX11_type G [.ref (gB G), .int (zI c)] C I P L (NI C (QY G (typeS (rdY G I L) c).1 (typeS (rdY G I L) c).2 Y C)) := by
  have hyl := h.1
  obtain ⟨hK, hK4, hP0, hP1, hP2, hP3, hP4, hP5, hP6, hr, -⟩ := id hyl
  have hKr := hr.2.1
  obtain ⟨n, hn⟩ := h.2.2.2.2.2.1
  have h2 := hn.1
  have h150 := hn.2.1
  have eS : (rdY G I L).2.2.2.2.1 = (n : Int) := h2
  refine en_I (by decide +kernel) (Nat.le_of_ble_eq_true rfl) ?_
  change Wd _ _ _ _ _ _ _ _ 0 [some _, some _] [] _ _ _ _
  refine r_iload_n (pc := 0) dX11_type_0 rfl ?_
  refine r_iconst (pc := 1) dX11_type_1 ?_
  refine r_bipush (pc := 2) dX11_type_2 (by decide) ?_
  refine i_S3ix (pc := 4) okX11_within staX11_within q334 dX11_type_4 (by decide) (Nat.le_of_ble_eq_true rfl) (sX11_within) ?_
  refine r_if_ne (pc := 7) 17 dX11_type_7 (by decide) (by first | omega | (split <;> decide)) (fun h7 => ?_) (fun h7 => ?_)
  · skip
    refine r_aload_n (pc := 17) dX11_type_17 rfl ?_
    refine r_getP (pc := 18) dX11_type_18 frX11_10 (by assumption) (by assumption) ?_
    refine r_getI (pc := 21) dX11_type_21 frX11_117 (by assumption) ?_
    refine r_sipush (pc := 24) dX11_type_24 (by decide) ?_
    refine r_icmp_lt (pc := 27) 35 dX11_type_27 (by decide) (by first | omega | (split <;> decide)) (by first | omega | (split <;> decide)) (fun h27 => ?_) (fun h27 => ?_)
    · skip
      refine r_aload_n (pc := 35) dX11_type_35 rfl ?_
      refine r_getP (pc := 36) dX11_type_36 frX11_10 (by assumption) (by assumption) ?_
      refine r_iload_n (pc := 39) dX11_type_39 rfl ?_
      have hlt : n < 150 := by omega
      refine i_V1ix (pc := 40) okX7_add inX7_add selX7_add q394 dX11_type_40 (by assumption) rfl (by decide) (Nat.le_of_ble_eq_true rfl) (sX7_add (n := n)) ?_
      refine t_iret (pc := 43) dX11_type_43 rfl rfl ?_
      unfold typeS
      rw [if_pos (wt h7), if_pos (by rw [eS]; omega), eS]
      have hO : ∀ x, x ≠ gB G + 1 → x ≠ gB G + 1 + 1 → (u2 (u2 I (gB G + 1 + 1) n c) (gB G + 1) 2 ((n : Int) + 1)) x = I x := fun x h1 h3 => by funext j; rw [u2_a _ _ _ _ h1, u2_a _ _ _ _ h3]
      have hcc := wt h7
      refine ⟨rfl, ?_, h.read (n := n + 1) hO ⟨by rw [u2_s]; omega, by omega, fun j hj => ?_⟩⟩
      · rw [rdY_read hO, u2_s]
        have eb : (u2 (u2 I (gB G + 1 + 1) n c) (gB G + 1) 2 ((n : Int) + 1)) (gB G + 2) = up (I (gB G + 2)) n c := by
          funext j
          rw [u2_a _ _ _ _ (by omega)]
          simp only [u2_app, up_app, show gB G + 2 = gB G + 1 + 1 from rfl, eq_self, true_and]
        rw [eb]; rfl
      · rw [u2_a _ _ _ _ (by omega), u2_app]
        have := hn.2.2 j hj
        split <;> omega
    · skip
      refine r_aload_n (pc := 30) dX11_type_30 rfl ?_
      refine i_V0ix (pc := 31) okX11_refuseFull inX11_refuseFull selX11_refuseFull q369 dX11_type_31 (by assumption) rfl (by decide) (Nat.le_of_ble_eq_true rfl) (sX11_refuseFull) ?_
      refine t_iret (pc := 34) dX11_type_34 rfl rfl ?_
      unfold typeS
      rw [if_pos (wt h7), if_neg (by rw [eS]; omega)]
      exact QY_full h
  · skip
    refine r_aload_n (pc := 10) dX11_type_10 rfl ?_
    refine r_bipush (pc := 11) dX11_type_11 (by decide) ?_
    refine i_V1ix (pc := 13) okX11_refuseBad inX11_refuseBad selX11_refuseBad q337 dX11_type_13 (by assumption) rfl (by decide) (Nat.le_of_ble_eq_true rfl) (sX11_refuseBad) ?_
    refine t_iret (pc := 16) dX11_type_16 rfl rfl ?_
    unfold typeS
    rw [if_neg (wf h7)]
    exact QY_bad h

