/-! the reference: an item -/
def argN (b : Nat → Int) (n : Nat) (T : Nat × Nat × Int) (X t : Nat → Int) : Bool × Nat × Nat × (Nat → Int) := if itemB b T.1 T.2.1 T.2.2 = -1 ∨ itemB b T.1 T.2.1 T.2.2 = 0 ∨ (itemB b T.1 T.2.1 T.2.2 = 2 ∧ 6 ≤ X 6) ∨ (itemB b T.1 T.2.1 T.2.2 = 4 ∧ 8 ≤ X 33) then (false, T.1, T.2.1, t) else argS b n (itemB b T.1 T.2.1 T.2.2).toNat (X 6) (atT numsT (itemB b T.1 T.2.1 T.2.2).toNat).toNat 0 T.2.1 t
theorem argN_no {b : Nat → Int} {n : Nat} {T : Nat × Nat × Int} {X t : Nat → Int} (h : itemB b T.1 T.2.1 T.2.2 = -1 ∨ itemB b T.1 T.2.1 T.2.2 = 0 ∨ (itemB b T.1 T.2.1 T.2.2 = 2 ∧ 6 ≤ X 6) ∨ (itemB b T.1 T.2.1 T.2.2 = 4 ∧ 8 ≤ X 33)) : argN b n T X t = (false, T.1, T.2.1, t) := if_pos h
theorem argN_1 {b : Nat → Int} {n : Nat} {T : Nat × Nat × Int} {X t : Nat → Int} (h : itemB b T.1 T.2.1 T.2.2 = 1) : argN b n T X t = argS b n 1 (X 6) (1 + 1) 0 T.2.1 t := by unfold argN; rw [h, if_neg (by omega)]; rfl
theorem argN_2 {b : Nat → Int} {n : Nat} {T : Nat × Nat × Int} {X t : Nat → Int} (h : itemB b T.1 T.2.1 T.2.2 = 2) (h6 : X 6 < 6) : argN b n T X t = argS b n 2 (X 6) 3 0 T.2.1 t := by unfold argN; rw [h, if_neg (by omega)]; rfl
theorem argN_3 {b : Nat → Int} {n : Nat} {T : Nat × Nat × Int} {X t : Nat → Int} (h : itemB b T.1 T.2.1 T.2.2 = 3) : argN b n T X t = argS b n 3 (X 6) (1 + 1) 0 T.2.1 t := by unfold argN; rw [h, if_neg (by omega)]; rfl
theorem argN_4 {b : Nat → Int} {n : Nat} {T : Nat × Nat × Int} {X t : Nat → Int} (h : itemB b T.1 T.2.1 T.2.2 = 4) (h8 : X 33 < 8) : argN b n T X t = argS b n 4 (X 6) 3 0 T.2.1 t := by unfold argN; rw [h, if_neg (by omega)]; rfl
theorem ch_inj : ∀ i j : Fin 5, chS i.val 0 = chS j.val 0 → i = j := by decide +kernel
theorem sl_pos : ∀ i : Fin 5, 0 < (slen[i.val]?).getD 0 := by decide
theorem sp_one {b : Nat → Int} {s e i j : Nat} (hi : i < 5) (hj : j < 5) (h : spellB b s e i = true) (h2 : spellB b s e j = true) : i = j := by
  have a := of_decide_eq_true h
  have c := of_decide_eq_true h2
  have a0 := a.2 0 (sl_pos ⟨i, hi⟩)
  have c0 := c.2 0 (sl_pos ⟨j, hj⟩)
  have q := ch_inj ⟨i, hi⟩ ⟨j, hj⟩ (a0.symm.trans c0)
  exact Fin.mk.inj q
theorem sp_it {b : Nat → Int} {s e i : Nat} {so : Int} (hi : i < 5) : (so = 2 ∧ spellB b s e i = true) ↔ itemB b s e so = (i : Int) := by
  unfold itemB
  by_cases h2 : so = 2
  · rw [if_pos h2]
    have f0 := fun h => sp_one (b := b) (s := s) (e := e) hi (show 0 < 5 by decide) h
    have f1 := fun h => sp_one (b := b) (s := s) (e := e) hi (show 1 < 5 by decide) h
    have f2 := fun h => sp_one (b := b) (s := s) (e := e) hi (show 2 < 5 by decide) h
    have f3 := fun h => sp_one (b := b) (s := s) (e := e) hi (show 3 < 5 by decide) h
    have f4 := fun h => sp_one (b := b) (s := s) (e := e) hi (show 4 < 5 by decide) h
    constructor
    · intro h
      have g0 := f0 h.2
      have g1 := f1 h.2
      have g2 := f2 h.2
      have g3 := f3 h.2
      have g4 := f4 h.2
      have hh := h.2
      rcases (show i = 0 ∨ i = 1 ∨ i = 2 ∨ i = 3 ∨ i = 4 by omega) with q | q | q | q | q <;> subst q
      · rw [if_pos hh]; rfl
      · rw [if_neg (fun z => absurd (g0 z) (by decide)), if_pos hh]; rfl
      · rw [if_neg (fun z => absurd (g0 z) (by decide)), if_neg (fun z => absurd (g1 z) (by decide)), if_pos hh]; rfl
      · rw [if_neg (fun z => absurd (g0 z) (by decide)), if_neg (fun z => absurd (g1 z) (by decide)), if_neg (fun z => absurd (g2 z) (by decide)), if_pos hh]; rfl
      · rw [if_neg (fun z => absurd (g0 z) (by decide)), if_neg (fun z => absurd (g1 z) (by decide)), if_neg (fun z => absurd (g2 z) (by decide)), if_neg (fun z => absurd (g3 z) (by decide)), if_pos hh]; rfl
    · intro h
      refine ⟨h2, ?_⟩
      split at h
      · rw [show i = 0 by omega]; assumption
      · split at h
        · rw [show i = 1 by omega]; assumption
        · split at h
          · rw [show i = 2 by omega]; assumption
          · split at h
            · rw [show i = 3 by omega]; assumption
            · split at h
              · rw [show i = 4 by omega]; assumption
              · exfalso; omega
  · rw [if_neg h2]
    exact ⟨fun h => absurd h.1 h2, fun h => by exfalso; omega⟩
theorem nm_it {b : Nat → Int} {T : Nat × Nat × Int} {R : Nat → Int} {z : Nat} (i : Nat) (hi : i < 5) (hz : (slen[i]?).getD 0 = z) (hR : ∀ j : Fin z, R j.val = chS i j.val) : nmB b T z R = true ↔ itemB b T.1 T.2.1 T.2.2 = (i : Int) := by
  rw [← sp_it hi]
  unfold nmB spellB
  rw [hz, decide_eq_true_eq, decide_eq_true_eq]
  exact ⟨fun q => ⟨q.1, q.2.1, fun j hj => (q.2.2 j hj).trans (hR ⟨j, hj⟩)⟩, fun q => ⟨q.1, q.2.1, fun j hj => (q.2.2 j hj).trans (hR ⟨j, hj⟩).symm⟩⟩
theorem nm0 {b : Nat → Int} {T : Nat × Nat × Int} : nmB b T (szN 114 0 0) (rowL 121 101 97 114 0 0) = true ↔ itemB b T.1 T.2.1 T.2.2 = 0 := by
  rw [show szN 114 0 0 = 4 by decide]
  exact nm_it 0 (by decide) (by decide) (by decide +kernel)
theorem nm1 {b : Nat → Int} {T : Nat × Nat × Int} : nmB b T (szN 114 101 0) (rowL 115 116 111 114 101 0) = true ↔ itemB b T.1 T.2.1 T.2.2 = 1 := by
  rw [show szN 114 101 0 = 5 by decide]
  exact nm_it 1 (by decide) (by decide) (by decide +kernel)
theorem nm2 {b : Nat → Int} {T : Nat × Nat × Int} : nmB b T (szN 105 108 121) (rowL 102 97 109 105 108 121) = true ↔ itemB b T.1 T.2.1 T.2.2 = 2 := by
  rw [show szN 105 108 121 = 6 by decide]
  exact nm_it 2 (by decide) (by decide) (by decide +kernel)
theorem nm3 {b : Nat → Int} {T : Nat × Nat × Int} : nmB b T (szN 0 0 0) (rowL 106 111 98 0 0 0) = true ↔ itemB b T.1 T.2.1 T.2.2 = 3 := by
  rw [show szN 0 0 0 = 3 by decide]
  exact nm_it 3 (by decide) (by decide) (by decide +kernel)
theorem nm4 {b : Nat → Int} {T : Nat × Nat × Int} : nmB b T (szN 116 0 0) (rowL 100 101 98 116 0 0) = true ↔ itemB b T.1 T.2.1 T.2.2 = 4 := by
  rw [show szN 116 0 0 = 4 by decide]
  exact nm_it 4 (by decide) (by decide) (by decide +kernel)

