/-! type, clear -/
theorem YI.read {G : WG} {C : CF} {I I1 : MI} {P : MP} {Y : Int} {n : Nat} (h : YI G C I P Y) (hi : ∀ x, x ≠ gB G + 1 → x ≠ gB G + 1 + 1 → I1 x = I x) (hn : ReadI I1 (gB G + 1) n) : YI G C I1 P Y := by
  obtain ⟨hy, ⟨l1, l2, l3, l4⟩, ⟨w1, w2, w3, w4⟩, hU, ht, -, hto, hs0, hg0, hx, hst, hlo⟩ := h
  have e1 : rdL I1 (gB G + 11) = rdL I (gB G + 11) := rdL_eqr (fun x hx => hi x (by omega) (by omega))
  have e2 : rdL I1 (gB G + 91) = rdL I (gB G + 91) := rdL_eqr (fun x hx => hi x (by omega) (by omega))
  have e3 : rdL I1 (gB G + 171) = rdL I (gB G + 171) := rdL_eqr (fun x hx => hi x (by omega) (by omega))
  have e4 : rdL I1 (gB G + 251) = rdL I (gB G + 251) := rdL_eqr (fun x hx => hi x (by omega) (by omega))
  unfold YI
  rw [e1, e2, e3, e4]
  exact ⟨hy, ⟨l1, l2, l3, l4⟩, ⟨w1, w2, w3, w4⟩, hU, fun i h1 h2 => TF_eqr (ht i h1 h2) (fun x hx => hi x (by omega) (by omega)) (fun _ _ => rfl), ⟨n, hn⟩, by rw [hi _ (by omega) (by omega)]; exact hto, by rw [hi _ (by omega) (by omega)]; exact hs0, by rw [hi _ (by omega) (by omega)]; exact hg0, TxtL_eqr hx hlo (fun x hx => hi x (by omega) (by omega)), StatL_eqr hst hlo (fun x hx => hi x (by omega) (by omega)), hlo⟩
def yT (S : YS) (b : Nat → Int) (n : Int) : YS := (S.1, S.2.1, S.2.2.1, b, n, S.2.2.2.2.2)
theorem rdY_read {G : WG} {I I1 : MI} {L : ML} (hi : ∀ x, x ≠ gB G + 1 → x ≠ gB G + 1 + 1 → I1 x = I x) : rdY G I1 L = yT (rdY G I L) (I1 (gB G + 2)) (I1 (gB G + 1) 2) := by
  unfold rdY yT
  rw [rdL_eqr (I1 := I1) (I := I) (l := gB G + 11) (fun x hx => hi x (by omega) (by omega)), rdL_eqr (I1 := I1) (I := I) (l := gB G + 171) (fun x hx => hi x (by omega) (by omega)), rdL_eqr (I1 := I1) (I := I) (l := gB G + 251) (fun x hx => hi x (by omega) (by omega)), hi (gB G) (by omega) (by omega)]
def typeS (S : YS) (c : Int) : Int × YS := if 0 ≤ c ∧ c ≤ 127 then (if S.2.2.2.2.1 < 150 then (S.2.2.2.2.1 + 1, yT S (up S.2.2.2.1 S.2.2.2.2.1.toNat c) (S.2.2.2.2.1 + 1)) else (-4, yF S)) else (-2, yB S)

