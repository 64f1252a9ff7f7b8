/-! what holds between the calls -/
def slotL (S : LSt) (j : Nat) : Nat := ((S.2.2.1 + 12 - j) % 6).toNat
/-- the farms to which may be gone back: no more families than now, the same long year -/
def UI (S : LSt) : Prop := ∀ j : Nat, (j : Int) < S.2.2.2.1 → S.2.2.2.2 (slotL S j) 6 ≤ S.1 6 ∧ S.2.2.2.2 (slotL S j) 0 = S.1 0
def YI (G : WG) (C : CF) (I : MI) (P : MP) (Y : Int) : Prop :=
  YL G C P ∧ (LI (rdL I (gB G + 11)) Y ∧ LI (rdL I (gB G + 91)) Y ∧ LI (rdL I (gB G + 171)) Y ∧ LI (rdL I (gB G + 251)) Y) ∧
  (WaysL C P (gB G + 11) (rdL I (gB G + 11)) ∧ WaysL C P (gB G + 91) (rdL I (gB G + 91)) ∧ WaysL C P (gB G + 171) (rdL I (gB G + 171)) ∧ WaysL C P (gB G + 251) (rdL I (gB G + 251))) ∧
  (UI (rdL I (gB G + 11)) ∧ UI (rdL I (gB G + 171)) ∧ UI (rdL I (gB G + 251))) ∧
  (∀ i, 0 ≤ i → i < 9 → TF C I P (gB G + 331 + 6 + 10 * i)) ∧ (∃ n, ReadI I (gB G + 1) n) ∧ (∀ j, j < 3 → iR (I (gB G + 1 + 2) j)) ∧ I (gB G + 331 + 4) 0 = 0 ∧ I (gB G + 331 + 5) 0 = 0 ∧ TxtL G C I ∧ StatL G C I ∧ LowL G
theorem rdL_eqr {I I1 : MI} {l : Nat} (h : ∀ x, (l ≤ x ∧ x < l + 80) → I1 x = I x) : rdL I1 l = rdL I l := by
  refine rdL_mk (rdF_eqr (fun x hx => h x (by omega))) (rdB_eqr (fun x hx => h x (by omega))) (by rw [h l (by omega)]) (by rw [h l (by omega)]) (fun i hi => ?_) (fun i hi => ?_)
  · show _ = if i < 6 then _ else _
    rw [if_pos hi]; exact rdF_eqr (fun x hx => h x (by omega))
  · show (if i < 6 then _ else _) = _
    rw [if_neg (by omega)]
theorem TF_eqr {C : CF} {I I1 : MI} {P P1 : MP} {a : Nat} (h : TF C I P a) (hi : ∀ x, (a ≤ x ∧ x < a + 10) → I1 x = I x) (hp : ∀ x, (a ≤ x ∧ x < a + 10) → P1 x = P x) : TF C I1 P1 a := by
  unfold TF at *
  rw [rdF_eqr hi]
  refine ⟨fun f hf => ?_, h.2⟩
  rw [hp _ (by omega)]
  exact h.1 f hf
theorem LI_le {S : LSt} {Y Z : Int} (h : LI S Y) (hl : Y ≤ Z) : LI S Z := ⟨FI_le h.1 hl, h.2.1, h.2.2.1, h.2.2.2.1, fun i hi => FI_le (h.2.2.2.2 i hi) hl⟩
/-- only the class's own fields change -/
theorem YI.own {G : WG} {C : CF} {I I1 : MI} {P : MP} {Y : Int} (h : YI G C I P Y) (hi : ∀ x, x ≠ gB G → I1 x = I x) : YI G C I1 P Y := by
  obtain ⟨hy, ⟨l1, l2, l3, l4⟩, ⟨w1, w2, w3, w4⟩, ⟨u1', u2', u3'⟩, ht, ⟨n, hn⟩, hto, hs0, hg0, hx, hst, hlo⟩ := h
  have e1 : rdL I1 (gB G + 11) = rdL I (gB G + 11) := rdL_eqr (fun x hx => hi x (by omega))
  have e2 : rdL I1 (gB G + 91) = rdL I (gB G + 91) := rdL_eqr (fun x hx => hi x (by omega))
  have e3 : rdL I1 (gB G + 171) = rdL I (gB G + 171) := rdL_eqr (fun x hx => hi x (by omega))
  have e4 : rdL I1 (gB G + 251) = rdL I (gB G + 251) := rdL_eqr (fun x hx => hi x (by omega))
  unfold YI
  rw [e1, e2, e3, e4]
  exact ⟨hy, ⟨l1, l2, l3, l4⟩, ⟨w1, w2, w3, w4⟩, ⟨u1', u2', u3'⟩, fun i h1 h2 => TF_eqr (ht i h1 h2) (fun x hx => hi x (by omega)) (fun _ _ => rfl), ⟨n, by rw [hi _ (by omega)]; exact hn.1, hn.2.1, by rw [hi _ (by omega)]; exact hn.2.2⟩, by rw [hi _ (by omega)]; exact hto, by rw [hi _ (by omega)]; exact hs0, by rw [hi _ (by omega)]; exact hg0, TxtL_eqr hx hlo (fun x hx => hi x (by omega)), StatL_eqr hst hlo (fun x hx => hi x (by omega)), hlo⟩
theorem ReadL.eqp {G : WG} {C : CF} {P P1 : MP} {r : Nat} (h : ReadL G C P r) (hp : P1 r = P r) : ReadL G C P1 r := ⟨h.1, h.2.1, h.2.2.1, h.2.2.2.1, by rw [hp]; exact h.2.2.2.2.1, by rw [hp]; exact h.2.2.2.2.2⟩
theorem FarmL.eqp {G : WG} {C : CF} {P P1 : MP} {a : Nat} (h : FarmL G C P a) (hp : ∀ x, (a ≤ x ∧ x < a + 10) → P1 x = P x) : FarmL G C P1 a := by
  obtain ⟨hB, hK, hK1, hK2, hK3, hP0, hP1, hP2, hP3, hfam⟩ := h
  exact ⟨hB, hK, hK1, hK2, hK3, by rw [hp _ (by omega)]; exact hP0, by rw [hp _ (by omega)]; exact hP1, by rw [hp _ (by omega)]; exact hP2, by rw [hp _ (by omega)]; exact hP3, fun f hf => ⟨(hfam f hf).1, by rw [hp _ (by omega)]; exact (hfam f hf).2⟩⟩
theorem LumpL.eqp {G : WG} {C : CF} {P P1 : MP} {l : Nat} (h : LumpL G C P l) (hp : ∀ x, (l ≤ x ∧ x < l + 80) → P1 x = P x) : LumpL G C P1 l := by
  obtain ⟨h0, hK, hK9, hP0, hP1, hP2, hb, hf, hpp⟩ := h
  exact ⟨h0, hK, hK9, by rw [hp _ (by omega)]; exact hP0, by rw [hp _ (by omega)]; exact hP1, by rw [hp _ (by omega)]; exact hP2, hb.eq (hp _ (by omega)), hf.eqp (fun x hx => hp x (by omega)), fun i hi => ⟨(hpp i hi).1.eqp (fun x hx => hp x (by omega)), by rw [hp _ (by omega)]; exact (hpp i hi).2⟩⟩
theorem TrialsL.eqp {G : WG} {C : CF} {P P1 : MP} {t : Nat} (h : TrialsL G C P t) (hp : ∀ x, (t ≤ x ∧ x < t + 96) → P1 x = P x) : TrialsL G C P1 t := by
  obtain ⟨h0, hK, hK1, hK2, hK3, hK4, hK5, hP0, hP1, hP2, hP3, hP4, hP5, hf, hpp⟩ := h
  exact ⟨h0, hK, hK1, hK2, hK3, hK4, hK5, by rw [hp _ (by omega)]; exact hP0, by rw [hp _ (by omega)]; exact hP1, by rw [hp _ (by omega)]; exact hP2, by rw [hp _ (by omega)]; exact hP3, by rw [hp _ (by omega)]; exact hP4, by rw [hp _ (by omega)]; exact hP5, hf.eqp (fun x hx => hp x (by omega)), fun i hi => ⟨(hpp i hi).1.eqp (fun x hx => hp x (by omega)), by rw [hp _ (by omega)]; exact (hpp i hi).2⟩⟩
theorem WaysL.eqp {C : CF} {P P1 : MP} {l : Nat} {S : LSt} (h : WaysL C P l S) (hp : ∀ x, (l ≤ x ∧ x < l + 80) → P1 x = P x) : WaysL C P1 l S := ⟨fun f hf => by rw [hp _ (by omega)]; exact h.1 f hf, fun i hi f hf => by rw [hp _ (by omega)]; exact h.2 i hi f hf⟩
/-- only the lump changes -/
theorem YI.lump {G : WG} {C : CF} {I I1 : MI} {P P1 : MP} {Y Y1 : Int} (h : YI G C I P Y) (hi : outL I I1 (gB G + 11)) (hp : outQ P P1 (gB G + 11)) (hl : LumpL G C P1 (gB G + 11)) (hL : LI (rdL I1 (gB G + 11)) Y1) (hW : WaysL C P1 (gB G + 11) (rdL I1 (gB G + 11))) (hU : UI (rdL I1 (gB G + 11))) (hYY : Y ≤ Y1) : YI G C I1 P1 Y1 := by
  obtain ⟨⟨y1, y2, y3, y4, y5, y6, y7, y8, y9, yr, yl1, yl2, yl3, yl4, yt, yk⟩, ⟨l1, l2, l3, l4⟩, ⟨w1, w2, w3, w4⟩, ⟨u1', u2', u3'⟩, ht, ⟨n, hn⟩, hto, hs0, hg0, hx, hst, hlo⟩ := h
  have e2 : rdL I1 (gB G + 91) = rdL I (gB G + 91) := rdL_eqr (fun x hx => hi x (by omega))
  have e3 : rdL I1 (gB G + 171) = rdL I (gB G + 171) := rdL_eqr (fun x hx => hi x (by omega))
  have e4 : rdL I1 (gB G + 251) = rdL I (gB G + 251) := rdL_eqr (fun x hx => hi x (by omega))
  have e0 : P1 (gB G) = P (gB G) := hp _ (by omega)
  have e5 : P1 (gB G + 5) = P (gB G + 5) := hp _ (by omega)
  unfold YI
  rw [e2, e3, e4]
  refine ⟨⟨y1, y2, by rw [e0]; exact y3, by rw [e0]; exact y4, by rw [e0]; exact y5, by rw [e0]; exact y6, by rw [e0]; exact y7, by rw [e0]; exact y8, by rw [e0]; exact y9, yr.eqp (hp _ (by omega)), hl, yl2.eqp (fun x hx => hp x (by omega)), yl3.eqp (fun x hx => hp x (by omega)), yl4.eqp (fun x hx => hp x (by omega)), yt.eqp (fun x hx => hp x (by omega)), yk.1, by rw [e5]; exact yk.2⟩, ⟨hL, LI_le l2 hYY, LI_le l3 hYY, LI_le l4 hYY⟩, ⟨hW, w2.eqp (fun x hx => hp x (by omega)), w3.eqp (fun x hx => hp x (by omega)), w4.eqp (fun x hx => hp x (by omega))⟩, ⟨hU, u2', u3'⟩, fun i h1 h2 => TF_eqr (ht i h1 h2) (fun x hx => hi x (by omega)) (fun x hx => hp x (by omega)), ⟨n, by rw [hi _ (by omega)]; exact hn.1, hn.2.1, by rw [hi _ (by omega)]; exact hn.2.2⟩, by rw [hi _ (by omega)]; exact hto, by rw [hi _ (by omega)]; exact hs0, by rw [hi _ (by omega)]; exact hg0, TxtL_eqr hx hlo (fun x hx => hi x (by omega)), StatL_eqr hst hlo (fun x hx => hi x (by omega)), hlo⟩


