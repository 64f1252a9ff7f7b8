/-! eats, apart, bears -/
def eatsS (S : YS) (f y : Int) : Int × YS := if (0 ≤ f ∧ f ≤ S.1.1 6 - 1) ∧ (0 ≤ y ∧ y ≤ 9999) then (mealK (S.1.1 (7 + 4 * f.toNat)) (S.1.1 (8 + 4 * f.toNat)) (noonF S.1.1 y), S) else (-2, yB S)
def apartS (S : YS) (v w : Int) : Int × YS := if (0 ≤ v ∧ v ≤ S.1.2.1 90 - 1) ∧ (0 ≤ w ∧ w ≤ S.1.2.1 90 - 1) then (apR S.1.2.1 v.toNat (rowB S.1.2.1 w.toNat) 6, S) else (-2, yB S)
def bearsS (S : YS) : Int := if nearO S.1.2.1 (S.1.2.1 90).toNat = -1 then -1 else max 0 (nearO S.1.2.1 (S.1.2.1 90).toNat - 1) / 2

