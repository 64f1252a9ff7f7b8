/-! a lump: its farm, its books, its farms of before -/
abbrev LSt : Type := (Nat → Int) × (Nat → Int) × Int × Int × (Nat → Nat → Int)
def rdL (I : MI) (l : Nat) : LSt := (rdF I (l + 10), rdB I (l + 1), I l 3, I l 4, fun i => if i < 6 then rdF I (l + 20 + 10 * i) else fun _ => 0)
theorem rdL_mk {I : MI} {l : Nat} {F B : Nat → Int} {x u : Int} {p : Nat → Nat → Int} (h1 : rdF I (l + 10) = F) (h2 : rdB I (l + 1) = B) (h3 : I l 3 = x) (h4 : I l 4 = u) (h5 : ∀ i, i < 6 → rdF I (l + 20 + 10 * i) = p i) (h6 : ∀ i, 6 ≤ i → p i = fun _ => 0) : rdL I l = (F, B, x, u, p) := by
  unfold rdL
  rw [h1, h2, h3, h4]
  congr 4
  funext i
  by_cases h : i < 6
  · rw [if_pos h, h5 i h]
  · rw [if_neg h, h6 i (by omega)]
theorem rdL_p {I : MI} {l i : Nat} (h : i < 6) : (rdL I l).2.2.2.2 i = rdF I (l + 20 + 10 * i) := by
  show (if i < 6 then rdF I (l + 20 + 10 * i) else fun _ => 0) = _
  rw [if_pos h]
theorem rdL_p6 {I : MI} {l i : Nat} (h : 6 ≤ i) : (rdL I l).2.2.2.2 i = fun _ => 0 := by
  show (if i < 6 then rdF I (l + 20 + 10 * i) else fun _ => 0) = _
  rw [if_neg (by omega)]
theorem rdF_u2 (I : MI) {a x k : Nat} {v : Int} (h : x < a ∨ a + 10 ≤ x) : rdF (u2 I x k v) a = rdF I a := by
  funext j
  simp only [rdF]
  by_cases h7 : j < 7
  · rw [if_pos h7, if_pos h7, u2_a _ _ _ _ (by omega)]
  rw [if_neg h7, if_neg h7]
  by_cases h31 : j < 31
  · rw [if_pos h31, if_pos h31, u2_a _ _ _ _ (by omega)]
  rw [if_neg h31, if_neg h31, u2_a _ _ _ _ (by omega)]
theorem rdB_u2 (I : MI) {b x k : Nat} {v : Int} (h : x < b ∨ b + 8 ≤ x) : rdB (u2 I x k v) b = rdB I b := by
  funext j
  simp only [rdB_def]
  rw [u2_a _ _ _ _ (by omega), u2_a _ _ _ _ (by omega), u2_a _ _ _ _ (by omega), u2_a _ _ _ _ (by omega), u2_a _ _ _ _ (by omega), u2_a _ _ _ _ (by omega), u2_a _ _ _ _ (by omega)]
theorem rdB_oF {I I1 : MI} {a b : Nat} (h : outF I I1 a) (hb : b + 8 ≤ a ∨ a + 10 ≤ b := by omega) : rdB I1 b = rdB I b := by
  funext k
  simp only [rdB_def]
  rw [h b (by omega), h (b + 7) (by omega), h (b + 1 + (k - 34) % 3) (by omega), h (b + 4 + (k - 60) % 3) (by omega)]
theorem rdF_oB {I I1 : MI} {a b : Nat} (h : outB I I1 b) (hb : b + 8 ≤ a ∨ a + 10 ≤ b := by omega) : rdF I1 a = rdF I a := by
  funext k
  simp only [rdF]
  rw [h a (by omega)]
  by_cases h7 : k < 7
  · rw [if_pos h7, if_pos h7]
  rw [if_neg h7, if_neg h7]
  by_cases h31 : k < 31
  · rw [if_pos h31, if_pos h31, h _ (by omega)]
  rw [if_neg h31, if_neg h31]
/-- outside the lump's eighty cells nothing changes -/
def outL (I I' : MI) (l : Nat) : Prop := ∀ x, (x < l ∨ l + 80 ≤ x) → I' x = I x
theorem outL.rf (I : MI) (l : Nat) : outL I I l := fun _ _ => rfl
theorem outL.tr {I I1 I2 : MI} {l : Nat} (h : outL I I1 l) (h2 : outL I1 I2 l) : outL I I2 l := fun x hx => (h2 x hx).trans (h x hx)
theorem outL.u {I I1 : MI} {a l k : Nat} {v : Int} (h : outL I I1 l) (hb : l ≤ a := by omega) (hb2 : a < l + 80 := by omega) : outL I (u2 I1 a k v) l := by
  intro x hx
  funext j
  unfold u2
  rw [if_neg (by omega)]
  exact congrFun (h x hx) j
theorem outL.f {I I1 I2 : MI} {a l : Nat} (h : outL I I1 l) (h2 : outF I1 I2 a) (hb : l ≤ a := by omega) (hb2 : a + 10 ≤ l + 80 := by omega) : outL I I2 l := fun x hx => (h2 x (by omega)).trans (h x hx)
theorem outL.b {I I1 I2 : MI} {b l : Nat} (h : outL I I1 l) (h2 : outB I1 I2 b) (hb : l ≤ b := by omega) (hb2 : b + 8 ≤ l + 80 := by omega) : outL I I2 l := fun x hx => (h2 x (by omega)).trans (h x hx)
def outQ (P P' : MP) (l : Nat) : Prop := ∀ x, (x < l ∨ l + 80 ≤ x) → P' x = P x
theorem outQ.rf (P : MP) (l : Nat) : outQ P P l := fun _ _ => rfl
theorem outQ.tr {P P1 P2 : MP} {l : Nat} (h : outQ P P1 l) (h2 : outQ P1 P2 l) : outQ P P2 l := fun x hx => (h2 x hx).trans (h x hx)
theorem outQ.f {P P1 P2 : MP} {a l : Nat} (h : outQ P P1 l) (h2 : outP P1 P2 a) (hb : l ≤ a := by omega) (hb2 : a + 10 ≤ l + 80 := by omega) : outQ P P2 l := fun x hx => (h2 x (by omega)).trans (h x hx)
theorem rdL_out {I I1 : MI} {l m : Nat} (h : outL I I1 m) (hb : l + 80 ≤ m ∨ m + 80 ≤ l := by omega) : rdL I1 l = rdL I l := by
  have hf : ∀ a, l ≤ a → a + 10 ≤ l + 80 → rdF I1 a = rdF I a := by
    intro a h1 h2
    funext k
    simp only [rdF]
    rw [h a (by omega)]
    by_cases h7 : k < 7
    · rw [if_pos h7, if_pos h7]
    rw [if_neg h7, if_neg h7]
    by_cases h31 : k < 31
    · rw [if_pos h31, if_pos h31, h _ (by omega)]
    rw [if_neg h31, if_neg h31]
  have hbk : rdB I1 (l + 1) = rdB I (l + 1) := by
    funext k
    simp only [rdB_def]
    rw [h (l + 1) (by omega), h (l + 1 + 7) (by omega), h (l + 1 + 1 + (k - 34) % 3) (by omega), h (l + 1 + 4 + (k - 60) % 3) (by omega)]
  refine rdL_mk (hf _ (by omega) (by omega)) hbk (by rw [h l (by omega)]) (by rw [h l (by omega)]) (fun i hi => ?_) (fun i hi => ?_)
  · show _ = if i < 6 then _ else _
    rw [if_pos hi]; exact hf _ (by omega) (by omega)
  · show (if i < 6 then _ else _) = _
    rw [if_neg (by omega)]
def LumpL (G : WG) (C : CF) (P : MP) (l : Nat) : Prop := gB G + 6 ≤ l ∧ C.1 l = some (.inl 5) ∧ C.1 (l + 9) = some (.inr (2, 6)) ∧ P l 0 = some (l + 10) ∧ P l 1 = some (l + 1) ∧ P l 2 = some (l + 9) ∧ BooksL G C P (l + 1) ∧ FarmL G C P (l + 10) ∧ ∀ i, i < 6 → FarmL G C P (l + 20 + 10 * i) ∧ P (l + 9) i = some (l + 20 + 10 * i)
theorem BooksL.eq {G : WG} {C : CF} {P P1 : MP} {b : Nat} (h : BooksL G C P b) (e : P1 b = P b) : BooksL G C P1 b := by
  unfold BooksL at *
  rw [e]
  exact h
theorem LumpL.p {G : WG} {C : CF} {P P1 : MP} {l a : Nat} (h : LumpL G C P l) (ho : outP P P1 a) (ha : a + 10 ≤ l ∨ l + 80 ≤ a ∨ ∃ j, 1 ≤ j ∧ j < 8 ∧ a = l + 10 * j) : LumpL G C P1 l := by
  obtain ⟨h0, hK, hK9, hP0, hP1, hP2, hb, hf, hp⟩ := h
  have el : P1 l = P l := by
    rcases ha with ha | ha | ⟨j, h1, h2, rfl⟩ <;> exact ho l (by omega)
  have eb : P1 (l + 1) = P (l + 1) := by
    rcases ha with ha | ha | ⟨j, h1, h2, rfl⟩ <;> exact ho _ (by omega)
  have e9 : P1 (l + 9) = P (l + 9) := by
    rcases ha with ha | ha | ⟨j, h1, h2, rfl⟩ <;> exact ho _ (by omega)
  have hfr : ∀ j', 1 ≤ j' → j' < 8 → FarmL G C P (l + 10 * j') → FarmL G C P1 (l + 10 * j') := by
    intro j' h1' h2' hF
    refine hF.p ho ?_
    rcases ha with ha | ha | ⟨j, h1, h2, rfl⟩ <;> omega
  refine ⟨h0, hK, hK9, by rw [el]; exact hP0, by rw [el]; exact hP1, by rw [el]; exact hP2, hb.eq eb, hfr 1 (by omega) (by omega) hf, fun i hi => ⟨?_, by rw [e9]; exact (hp i hi).2⟩⟩
  have e : l + 20 + 10 * i = l + 10 * (2 + i) := by omega
  rw [e]
  refine hfr (2 + i) (by omega) (by omega) ?_
  rw [← e]
  exact (hp i hi).1
def WaysL (C : CF) (P : MP) (l : Nat) (S : LSt) : Prop := WayL C P (l + 10) S.1 ∧ ∀ i, i < 6 → WayL C P (l + 20 + 10 * i) (S.2.2.2.2 i)
/-- what holds of a lump -/
def LI (S : LSt) (Y : Int) : Prop := FI S.1 Y ∧ BI S.2.1 ∧ (0 ≤ S.2.2.1 ∧ S.2.2.1 < 6) ∧ (0 ≤ S.2.2.2.1 ∧ S.2.2.2.1 ≤ 6) ∧ ∀ i, i < 6 → FI (S.2.2.2.2 i) Y
def QL (G : WG) (l : Nat) (I : MI) (S : LSt) (C : CF) (P : MP) (L : ML) : MI → MP → ML → Prop := fun I1 P1 L1 => rdL I1 l = S ∧ outL I I1 l ∧ outQ P P1 l ∧ LumpL G C P1 l ∧ WaysL C P1 l S ∧ L = L1
def QLI (G : WG) (l : Nat) (e : Int) (I : MI) (S : LSt) (C : CF) (P : MP) (L : ML) : Int → MI → MP → ML → Prop := fun r I1 P1 L1 => r = e ∧ rdL I1 l = S ∧ outL I I1 l ∧ outQ P P1 l ∧ LumpL G C P1 l ∧ WaysL C P1 l S ∧ L = L1
theorem sX11_farmAt {G : WG} {C : CF} {I : MI} {P : MP} {L : ML} {a n i r : Nat} {x : Int} (hK : C.1 a = some (.inr (2, n)) := by assumption) (hn : n ≤ 1000 := by omega) (hx : x = (i : Int) := by first | rfl | omega) (hi : i < n := by omega) (hP : P a i = some r := by assumption) : SX11_farmAt G [.ref a, .int (zI x)] C I P L (NR C (XR r I P L)) := by
  subst hx
  refine en_R (by decide +kernel) (Nat.le_of_ble_eq_true rfl) ?_
  change Wd _ _ _ _ _ _ _ _ 0 [some _, some _] [] _ _ _ _
  refine r_iload_n (pc := 0) dX11_farmAt_0 rfl ?_
  refine r_if_lt (pc := 1) 16 dX11_farmAt_1 (by decide) (by omega) (fun h1 => ?_) (fun h1 => ?_)
  · exfalso; omega
  · skip
    refine r_iload_n (pc := 4) dX11_farmAt_4 rfl ?_
    refine r_aload_n (pc := 5) dX11_farmAt_5 rfl ?_
    refine r_alen (pc := 6) dX11_farmAt_6 (by assumption) ?_
    refine r_icmp_ge (pc := 7) 16 dX11_farmAt_7 (by decide) (by omega) (by omega) (fun h7 => ?_) (fun h7 => ?_)
    · exfalso; omega
    · skip
      refine r_aload_n (pc := 10) dX11_farmAt_10 rfl ?_
      refine r_iload_n (pc := 11) dX11_farmAt_11 rfl ?_
      refine r_aald (j := i) (pc := 12) dX11_farmAt_12 (by assumption) (by decide) (by omega) (by omega) (by omega) (by assumption) ?_
      refine r_goto (pc := 13) 17 dX11_farmAt_13 (by decide) ?_
      refine t_aret (pc := 17) dX11_farmAt_17 rfl ?_
      exact ⟨rfl, rfl, rfl, rfl⟩
theorem sX5_begin {G : WG} {C : CF} {I : MI} {P : MP} {L : ML} {l : Nat} {v : Int} (hl : LumpL G C P l := by assumption) (hW : WaysL C P l (rdL I l) := by assumption) : SX5_begin G [.ref l, .int (zI v)] C I P L (NV C (QL G l I (begF (rdL I l).1 v, begB (rdL I l).2.1, (rdL I l).2.2.1, 0, (rdL I l).2.2.2.2) C P L)) := by
  obtain ⟨h0, hK, hK9, hP0, hP1, hP2, hb, hf, hp⟩ := id hl
  have hK10 := hf.2.1
  have hK1 := hb.2.1
  refine en_V (by decide +kernel) (Nat.le_of_ble_eq_true rfl) ?_
  change Wd _ _ _ _ _ _ _ _ 0 [some _, some _] [] _ _ _ _
  refine r_aload_n (pc := 0) dX5_begin_0 rfl ?_
  refine r_getP (pc := 1) dX5_begin_1 frX5_27 (by assumption) (by assumption) ?_
  refine r_iload_n (pc := 4) dX5_begin_4 rfl ?_
  refine i_V1vg (pc := 5) okX2_begin inX2_begin selX2_begin q726 dX5_begin_5 (by assumption) rfl (by decide) (Nat.le_of_ble_eq_true rfl) (sX2_begin) (fun I2 P2 L2 hq2 => ?_)
  obtain ⟨hT2, hO2, rfl, rfl⟩ := hq2
  refine r_aload_n (pc := 8) dX5_begin_8 rfl ?_
  refine r_getP (pc := 9) dX5_begin_9 frX5_12 (by assumption) (by assumption) ?_
  refine i_V0vg (pc := 12) okX0_begin inX0_begin selX0_begin q730 dX5_begin_12 (by assumption) rfl (by decide) (Nat.le_of_ble_eq_true rfl) (sX0_begin) (fun I3 P3 L3 hq3 => ?_)
  obtain ⟨hT3, hO3, rfl, rfl⟩ := hq3
  refine r_aload_n (pc := 15) dX5_begin_15 rfl ?_
  refine r_iconst (pc := 16) dX5_begin_16 ?_
  refine r_putI (pc := 17) dX5_begin_17 fwX5_37 (by assumption) (by omega) ?_
  refine t_vret (pc := 20) dX5_begin_20 rfl ?_
  refine ⟨rdL_mk ?_ ?_ ?_ ?_ (fun i hi => ?_) (fun i hi => rdL_p6 hi), ((((outL.rf I l).f hO2).b hO3).u), outQ.rf P l, hl, ?_, rfl⟩
  · rw [rdF_u2 _ (by omega), rdF_oB hO3, hT2]; rfl
  · rw [rdB_u2 _ (by omega), hT3, rdB_oF hO2]; rfl
  · rw [u2_k _ _ _ _ (by decide), hO3 l (by omega), hO2 l (by omega)]; rfl
  · rw [u2_s]
  · rw [rdF_u2 _ (by omega), rdF_oB hO3, rdF_out hO2, rdL_p hi]
  · refine ⟨?_, hW.2⟩
    intro g hg
    have e : begF (rdL I l).1 v (7 + 4 * g) = (rdL I l).1 (7 + 4 * g) := by simp only [begF]; rw [if_neg (by omega), if_neg (by omega)]
    show ∃ w, _ ∧ C.1 w = some (.inl (kcls (begF (rdL I l).1 v (7 + 4 * g)).toNat))
    rw [e]
    exact hW.1 g hg
def setL (S T : LSt) : LSt := (setF S.1 T.1, T.2.1, T.2.2.1, T.2.2.2.1, fun i => setF (S.2.2.2.2 i) (T.2.2.2.2 i))
theorem sX5_setTo {G : WG} {C : CF} {I : MI} {P : MP} {L : ML} {l m : Nat} {Y : Int} (hl : LumpL G C P l := by assumption) (hm : LumpL G C P m := by assumption) (hW : WaysL C P l (rdL I l) := by assumption) (hW2 : WaysL C P m (rdL I m) := by assumption) (hI2 : LI (rdL I m) Y := by assumption) (hlm : l + 80 ≤ m ∨ m + 80 ≤ l := by omega) : SX5_setTo G [.ref l, .ref m] C I P L (NV C (QL G l I (setL (rdL I l) (rdL I m)) C P L)) := by
  obtain ⟨h0, hK, hK9, hP0, hP1, hP2, hb, hf, hp⟩ := id hl
  obtain ⟨x0, xK, xK9, xP0, xP1, xP2, xb, xf, xp⟩ := id hm
  have hK10 := hf.2.1
  have hK1 := hb.2.1
  have hI20 : FI (rdF I (m + 10)) Y := hI2.1
  have hW0 : WayL C P (l + 10) (rdF I (l + 10)) := hW.1
  have hW20 : WayL C P (m + 10) (rdF I (m + 10)) := hW2.1
  generalize hq : QL G l I (setL (rdL I l) (rdL I m)) C P L = q
  refine en_V (by decide +kernel) (Nat.le_of_ble_eq_true rfl) ?_
  change Wd _ _ _ _ _ _ _ _ 0 [some _, some _, none, none, none] [] _ _ _ _
  have loop : ∀ (d f : Nat) (i : Int) (x y : Option Value) (I1 : MI) (P1 : MP), f + d = 6 → i = (f : Int) → LumpL G C P1 l → outL I I1 l → outQ P P1 l → rdF I1 (l + 10) = setF (rdF I (l + 10)) (rdF I (m + 10)) → rdB I1 (l + 1) = rdB I (m + 1) → I1 l 3 = I m 3 → I1 l 4 = I m 4 → WayL C P1 (l + 10) (setF (rdF I (l + 10)) (rdF I (m + 10))) →
      (∀ g, g < f → rdF I1 (l + 20 + 10 * g) = setF (rdF I (l + 20 + 10 * g)) (rdF I (m + 20 + 10 * g)) ∧ WayL C P1 (l + 20 + 10 * g) (setF (rdF I (l + 20 + 10 * g)) (rdF I (m + 20 + 10 * g)))) → (∀ g, f ≤ g → g < 6 → rdF I1 (l + 20 + 10 * g) = rdF I (l + 20 + 10 * g) ∧ WayL C P1 (l + 20 + 10 * g) (rdF I (l + 20 + 10 * g))) → Wd G yX5_setTo cX5_setTo 5 none 2 (C.2.1 + 0, C.2.2 + 0) (NV C q) 40 [some (.ref l), some (.ref m), some (.int (zI i)), x, y] [] C I1 P1 L := by
    intro d
    induction d using Nat.strongRecOn with
    | _ d ih =>
      intro f i x y I1 P1 hd hi hL1 hO hQ hT hB hx hu hWF hlo hhi
      have hPl : P1 l 2 = some (l + 9) := hL1.2.2.2.2.2.1
      have hPm : P1 m 2 = some (m + 9) := by rw [hQ m (by omega)]; exact xP2
      refine r_iload_n (pc := 40) dX5_setTo_40 rfl ?_
      refine r_aload_n (pc := 41) dX5_setTo_41 rfl ?_
      refine r_getA (pc := 42) dX5_setTo_42 frX5_20 (by assumption) (by assumption) ?_
      refine r_alen (pc := 45) dX5_setTo_45 (by assumption) ?_
      refine r_icmp_ge (pc := 46) 89 dX5_setTo_46 (by decide) (by omega) (by omega) (fun h46 => ?_) (fun h46 => ?_)
      · skip
        refine t_vret (pc := 89) dX5_setTo_89 rfl ?_
        subst hq
        refine ⟨rdL_mk hT hB hx hu (fun g hg => ?_) (fun g hg => ?_), hO, hQ, hL1, ⟨hWF, fun g hg => ?_⟩, rfl⟩
        · rw [rdL_p hg, rdL_p hg]; exact (hlo g (by omega)).1
        · rw [rdL_p6 hg, rdL_p6 hg]; funext k; rw [setF_app]; split <;> rfl
        · show WayL C P1 _ (setF ((rdL I l).2.2.2.2 g) ((rdL I m).2.2.2.2 g))
          rw [rdL_p hg, rdL_p hg]; exact (hlo g (by omega)).2
      · skip
        have hf6 : f < 6 := by omega
        have hPf := (hL1.2.2.2.2.2.2.2.2 f hf6).2
        have hF1 := (hL1.2.2.2.2.2.2.2.2 f hf6).1
        have hPg : P1 (m + 9) f = some (m + 20 + 10 * f) := by rw [hQ (m + 9) (by omega)]; exact (xp f hf6).2
        have hF2 : FarmL G C P1 (m + 20 + 10 * f) := by
          obtain ⟨yB, yK, yK1, yK2, yK3, yP0, yP1, yP2, yP3, yfam⟩ := (xp f hf6).1
          refine ⟨yB, yK, yK1, yK2, yK3, by rw [hQ _ (by omega)]; exact yP0, by rw [hQ _ (by omega)]; exact yP1, by rw [hQ _ (by omega)]; exact yP2, by rw [hQ _ (by omega)]; exact yP3, fun g hg => ⟨(yfam g hg).1, by rw [hQ _ (by omega)]; exact (yfam g hg).2⟩⟩
        have hKf := hF1.2.1
        have hRm : rdF I1 (m + 20 + 10 * f) = rdF I (m + 20 + 10 * f) := by
          have h := congrArg (fun S : LSt => S.2.2.2.2 f) (rdL_out hO (l := m) (by omega))
          simpa only [rdL_p hf6] using h
        have hI2f : FI (rdF I1 (m + 20 + 10 * f)) Y := by
          rw [hRm]
          have h := hI2.2.2.2.2 f hf6
          rwa [rdL_p hf6] at h
        have hWf : WayL C P1 (l + 20 + 10 * f) (rdF I1 (l + 20 + 10 * f)) := by
          rw [(hhi f (by omega) hf6).1]; exact (hhi f (by omega) hf6).2
        have hW2f : WayL C P1 (m + 20 + 10 * f) (rdF I1 (m + 20 + 10 * f)) := by
          rw [hRm]
          have h := hW2.2 f hf6
          rw [rdL_p hf6] at h
          intro g hg
          rw [hQ _ (by omega)]
          exact h g hg
        refine r_aload_n (pc := 49) dX5_setTo_49 rfl ?_
        refine r_getA (pc := 50) dX5_setTo_50 frX5_20 (by assumption) (by assumption) ?_
        refine r_iload_n (pc := 53) dX5_setTo_53 rfl ?_
        refine i_SN2rx (pc := 54) okX11_farmAt staX11_farmAt nwX5_51 dX5_setTo_54 (by decide) (Nat.le_of_ble_eq_true rfl) (sX11_farmAt (n := 6) (i := f)) ?_
        refine r_astore_n (pc := 57) dX5_setTo_57 (by decide) ?_
        refine r_aload_n (pc := 58) dX5_setTo_58 rfl ?_
        refine r_getA (pc := 59) dX5_setTo_59 frX5_20 (by assumption) (by assumption) ?_
        refine r_iload_n (pc := 62) dX5_setTo_62 rfl ?_
        refine i_SN2rx (pc := 63) okX11_farmAt staX11_farmAt nwX5_51 dX5_setTo_63 (by decide) (Nat.le_of_ble_eq_true rfl) (sX11_farmAt) ?_
        refine r_astore (pc := 66) dX5_setTo_66 (by decide) ?_
        refine r_aload_n (pc := 68) dX5_setTo_68 rfl ?_
        refine r_ifnull (pc := 69) dX5_setTo_69 ?_
        refine r_aload (pc := 72) dX5_setTo_72 rfl ?_
        refine r_ifnull (pc := 74) dX5_setTo_74 ?_
        refine r_aload_n (pc := 77) dX5_setTo_77 rfl ?_
        refine r_aload (pc := 78) dX5_setTo_78 rfl ?_
        refine i_V1vg (pc := 80) okX2_setTo inX2_setTo selX2_setTo q361 dX5_setTo_80 (by assumption) rfl (by decide) (Nat.le_of_ble_eq_true rfl) (sX2_setTo) (fun I3 P3 L3 hq3 => ?_)
        obtain ⟨hT3, hO3, hOP3, hW3, rfl⟩ := hq3
        have hf6 : f < 6 := by omega
        rw [hRm, (hhi f (by omega) hf6).1] at hT3 hW3
        refine r_iinc (pc := 83) dX5_setTo_83 rfl ?_
        refine r_goto (pc := 86) 40 dX5_setTo_86 (by decide) ?_
        refine ih (d - 1) (by omega) (f + 1) _ _ _ _ _ (by omega) (by omega) (hL1.p hOP3 (Or.inr (Or.inr ⟨2 + f, by omega, by omega, by omega⟩))) (hO.f hO3) (hQ.f hOP3) ?_ ?_ ?_ ?_ ?_ (fun g hg => ?_) (fun g hg hg6 => ?_)
        · rw [rdF_out hO3, hT]
        · rw [rdB_oF hO3, hB]
        · rw [hO3 l (by omega), hx]
        · rw [hO3 l (by omega), hu]
        · exact hWF.p hOP3
        · by_cases hgf : g = f
          · subst hgf; exact ⟨hT3, hW3⟩
          · exact ⟨by rw [rdF_out hO3 (by omega)]; exact (hlo g (by omega)).1, (hlo g (by omega)).2.p hOP3 (by omega)⟩
        · exact ⟨by rw [rdF_out hO3 (by omega)]; exact (hhi g (by omega) hg6).1, (hhi g (by omega) hg6).2.p hOP3 (by omega)⟩
  refine r_aload_n (pc := 0) dX5_setTo_0 rfl ?_
  refine r_getP (pc := 1) dX5_setTo_1 frX5_27 (by assumption) (by assumption) ?_
  refine r_aload_n (pc := 4) dX5_setTo_4 rfl ?_
  refine r_getP (pc := 5) dX5_setTo_5 frX5_27 (by assumption) (by assumption) ?_
  refine i_V1vg (pc := 8) okX2_setTo inX2_setTo selX2_setTo q361 dX5_setTo_8 (by assumption) rfl (by decide) (Nat.le_of_ble_eq_true rfl) (sX2_setTo) (fun I2 P2 L2 hq2 => ?_)
  obtain ⟨hT2, hO2, hOP2, hW2', rfl⟩ := hq2
  have hL2 : LumpL G C P2 l := hl.p hOP2 (Or.inr (Or.inr ⟨1, by omega, by omega, by omega⟩))
  have hL2m : LumpL G C P2 m := hm.p hOP2 (by omega)
  have hb2 := hL2.2.2.2.2.2.2.1
  have xb2 := hL2m.2.2.2.2.2.2.1
  have hPb : P2 l 1 = some (l + 1) := hL2.2.2.2.2.1
  have xPb : P2 m 1 = some (m + 1) := hL2m.2.2.2.2.1
  refine r_aload_n (pc := 11) dX5_setTo_11 rfl ?_
  refine r_getP (pc := 12) dX5_setTo_12 frX5_12 (by assumption) (by assumption) ?_
  refine r_aload_n (pc := 15) dX5_setTo_15 rfl ?_
  refine r_getP (pc := 16) dX5_setTo_16 frX5_12 (by assumption) (by assumption) ?_
  refine i_V1vg (pc := 19) okX0_setTo inX0_setTo selX0_setTo q675 dX5_setTo_19 (by assumption) rfl (by decide) (Nat.le_of_ble_eq_true rfl) (sX0_setTo) (fun I3 P3 L3 hq3 => ?_)
  obtain ⟨hT3, hO3, rfl, rfl⟩ := hq3
  refine r_aload_n (pc := 22) dX5_setTo_22 rfl ?_
  refine r_aload_n (pc := 23) dX5_setTo_23 rfl ?_
  refine r_getI (pc := 24) dX5_setTo_24 frX5_48 (by assumption) ?_
  refine r_putI (pc := 27) dX5_setTo_27 fwX5_48 (by assumption) (by omega) ?_
  refine r_aload_n (pc := 30) dX5_setTo_30 rfl ?_
  refine r_aload_n (pc := 31) dX5_setTo_31 rfl ?_
  refine r_getI (pc := 32) dX5_setTo_32 frX5_37 (by assumption) ?_
  try simp only [u2_app, true_and, and_true, and_false, false_and, and_self, Nat.reduceEqDiff, ↓reduceIte]
  refine r_putI (pc := 35) dX5_setTo_35 fwX5_37 (by assumption) (by omega) ?_
  refine r_iconst (pc := 38) dX5_setTo_38 ?_
  refine r_istore_n (pc := 39) dX5_setTo_39 (by decide) ?_
  refine loop 6 0 _ _ _ _ _ (by omega) (by omega) hL2 (((outL.rf I l).f hO2).b hO3).u.u ((outQ.rf P l).f hOP2) ?_ ?_ ?_ ?_ hW2' (fun g hg => by omega) (fun g hg hg6 => ?_)
  · rw [rdF_u2 _ (by omega), rdF_u2 _ (by omega), rdF_oB hO3, hT2]
  · rw [rdB_u2 _ (by omega), rdB_u2 _ (by omega), hT3, rdB_oF hO2]
  · rw [u2_k _ _ _ _ (by decide), u2_s, hO3 m (by omega), hO2 m (by omega)]
  · rw [u2_s, hO3 m (by omega), hO2 m (by omega)]
  · have h := hW.2 g hg6
    rw [rdL_p hg6] at h
    exact ⟨by rw [rdF_u2 _ (by omega), rdF_u2 _ (by omega), rdF_oB hO3 (by omega), rdF_out hO2 (by omega)], h.p hOP2 (by omega)⟩


