/-! what an item tells is laid into the lump -/
def addS (item : Int) (t : Nat → Int) (F B : Nat → Int) : (Nat → Int) × (Nat → Int) :=
  if item = 0 then (begF F (t 0), B) else if item = 1 then (up F (2 + (t 0).toNat) (t 1), B) else if item = 2 then (setlF F (sizeF F) (t 0) (t 1) (t 2), B) else if item = 3 then (up F (10 + 4 * (t 0).toNat) (t 1), B) else (F, debtB B (B 33).toNat (t 0) (t 1) (t 2))
def okS (item : Int) (t : Nat → Int) (F B : Nat → Int) : Prop := (item = 1 → 0 ≤ t 0 ∧ t 0 ≤ 3) ∧ (item = 2 → 0 ≤ t 0 ∧ t 0 ≤ 4 ∧ F 6 < 6) ∧ (item = 3 → 0 ≤ t 0 ∧ t 0 < F 6) ∧ (item = 4 → B 33 < 8)
def QA (l : Nat) (F B : Nat → Int) (I : MI) (C : CF) (P : MP) (L : ML) : MI → MP → ML → Prop := fun I1 P1 L1 => rdF I1 (l + 10) = F ∧ rdB I1 (l + 1) = B ∧ (∀ x, (x ≤ l ∨ l + 20 ≤ x ∨ x = l + 9) → I1 x = I x) ∧ outP P P1 (l + 10) ∧ WayL C P1 (l + 10) F ∧ L = L1

