/-! a farm's state, in the layout of one row of numbers: 0 span, 1 year, 2..5 stores, 6 families, 7+4f kind, mouths, memory, job, 31 wanted, 32 colds -/
def up (F : Nat → Int) (k : Nat) (v : Int) : Nat → Int := fun j => if j = k then v else F j
theorem up_s (F : Nat → Int) (k : Nat) (v : Int) : up F k v k = v := by simp [up]
theorem up_n (F : Nat → Int) {k j : Nat} (v : Int) (h : j ≠ k) : up F k v j = F j := by simp [up, h]
theorem up_app (F : Nat → Int) (k : Nat) (v : Int) (j : Nat) : up F k v j = if j = k then v else F j := rfl
theorem up_self (F : Nat → Int) (k : Nat) : up F k (F k) = F := by funext j; unfold up; split <;> simp_all
theorem up_up (F : Nat → Int) (k : Nat) (v w : Int) : up (up F k v) k w = up F k w := by funext j; unfold up; split <;> simp_all
theorem up_comm (F : Nat → Int) {k j : Nat} (v w : Int) (h : k ≠ j) : up (up F k v) j w = up (up F j w) k v := by funext x; unfold up; split <;> split <;> simp_all
/-- a farm's state out of memory: the Farm at a, its families at a+4 .. a+9 -/
def rdF (I : MI) (a k : Nat) : Int := if k < 7 then I a (k + 4) else if k < 31 then I (a + 4 + (k - 7) / 4) ((k - 7) % 4 + 1) else I a (k - 20)
theorem rd_def (I : MI) (a k : Nat) : rdF I a k = if k < 7 then I a (k + 4) else if k < 31 then I (a + 4 + (k - 7) / 4) ((k - 7) % 4 + 1) else I a (k - 20) := rfl
theorem rd_s (I : MI) (a : Nat) {k : Nat} (v : Int) (h : k < 7) : rdF (u2 I a (k + 4) v) a = up (rdF I a) k v := by
  funext j
  simp only [rd_def, up_app, u2_app]
  by_cases h1 : j < 7
  · simp only [h1, if_true, true_and]
    by_cases h2 : j = k
    · subst h2; simp
    · rw [if_neg (by omega), if_neg h2]
  · rw [if_neg h1, if_neg h1]
    by_cases h3 : j < 31
    · rw [if_pos h3, if_pos h3, if_neg (by omega), if_neg (by omega)]
    · rw [if_neg h3, if_neg h3, if_neg (by omega), if_neg (by omega)]
theorem rd_w (I : MI) (a : Nat) {k : Nat} (v : Int) (h : 31 ≤ k) : rdF (u2 I a (k - 20) v) a = up (rdF I a) k v := by
  funext j
  simp only [rd_def, up_app, u2_app]
  by_cases h1 : j < 7
  · rw [if_pos h1, if_pos h1, if_neg (by omega), if_neg (by omega)]
  · rw [if_neg h1, if_neg h1]
    by_cases h3 : j < 31
    · rw [if_pos h3, if_pos h3, if_neg (by omega), if_neg (by omega)]
    · rw [if_neg h3, if_neg h3]
      by_cases h2 : j = k
      · subst h2; simp
      · rw [if_neg (by omega), if_neg h2]
theorem rd_f (I : MI) (a : Nat) {f j : Nat} (v : Int) (hf : f < 6) (hj : j < 4) : rdF (u2 I (a + 4 + f) (j + 1) v) a = up (rdF I a) (7 + 4 * f + j) v := by
  funext x
  simp only [rd_def, up_app, u2_app]
  by_cases h1 : x < 7
  · rw [if_pos h1, if_pos h1, if_neg (by omega), if_neg (by omega)]
  · rw [if_neg h1, if_neg h1]
    by_cases h3 : x < 31
    · rw [if_pos h3, if_pos h3]
      by_cases h2 : x = 7 + 4 * f + j
      · subst h2; rw [if_pos (by omega), if_pos rfl]
      · rw [if_neg (by omega), if_neg h2]
    · rw [if_neg h3, if_neg h3, if_neg (by omega), if_neg (by omega)]
theorem rd_4 (I : MI) (a : Nat) (v : Int) : rdF (u2 I a 4 v) a = up (rdF I a) 0 v := rd_s I a v (by decide)
theorem rd_5 (I : MI) (a : Nat) (v : Int) : rdF (u2 I a 5 v) a = up (rdF I a) 1 v := rd_s I a v (by decide)
theorem rd_6 (I : MI) (a : Nat) (v : Int) : rdF (u2 I a 6 v) a = up (rdF I a) 2 v := rd_s I a v (by decide)
theorem rd_7 (I : MI) (a : Nat) (v : Int) : rdF (u2 I a 7 v) a = up (rdF I a) 3 v := rd_s I a v (by decide)
theorem rd_8 (I : MI) (a : Nat) (v : Int) : rdF (u2 I a 8 v) a = up (rdF I a) 4 v := rd_s I a v (by decide)
theorem rd_9 (I : MI) (a : Nat) (v : Int) : rdF (u2 I a 9 v) a = up (rdF I a) 5 v := rd_s I a v (by decide)
theorem rd_10 (I : MI) (a : Nat) (v : Int) : rdF (u2 I a 10 v) a = up (rdF I a) 6 v := rd_s I a v (by decide)
theorem rd_11 (I : MI) (a : Nat) (v : Int) : rdF (u2 I a 11 v) a = up (rdF I a) 31 v := rd_w I a (k := 31) v (by decide)
theorem rd_12 (I : MI) (a : Nat) (v : Int) : rdF (u2 I a 12 v) a = up (rdF I a) 32 v := rd_w I a (k := 32) v (by decide)
theorem rd_k (I : MI) (a : Nat) {f : Nat} (v : Int) (hf : f < 6) : rdF (u2 I (a + 4 + f) 1 v) a = up (rdF I a) (7 + 4 * f) v := rd_f I a v hf (by decide : 0 < 4)
theorem rd_m (I : MI) (a : Nat) {f : Nat} (v : Int) (hf : f < 6) : rdF (u2 I (a + 4 + f) 2 v) a = up (rdF I a) (8 + 4 * f) v := by rw [rd_f I a v hf (by decide : 1 < 4)]; congr 1; omega
theorem rd_y (I : MI) (a : Nat) {f : Nat} (v : Int) (hf : f < 6) : rdF (u2 I (a + 4 + f) 3 v) a = up (rdF I a) (9 + 4 * f) v := by rw [rd_f I a v hf (by decide : 2 < 4)]; congr 1; omega
theorem rd_j (I : MI) (a : Nat) {f : Nat} (v : Int) (hf : f < 6) : rdF (u2 I (a + 4 + f) 4 v) a = up (rdF I a) (10 + 4 * f) v := by rw [rd_f I a v hf (by decide : 3 < 4)]; congr 1; omega
theorem at_4 (I : MI) (a : Nat) : I a 4 = rdF I a 0 := rfl
theorem at_5 (I : MI) (a : Nat) : I a 5 = rdF I a 1 := rfl
theorem at_6 (I : MI) (a : Nat) : I a 6 = rdF I a 2 := rfl
theorem at_7 (I : MI) (a : Nat) : I a 7 = rdF I a 3 := rfl
theorem at_8 (I : MI) (a : Nat) : I a 8 = rdF I a 4 := rfl
theorem at_9 (I : MI) (a : Nat) : I a 9 = rdF I a 5 := rfl
theorem at_10 (I : MI) (a : Nat) : I a 10 = rdF I a 6 := rfl
theorem at_11 (I : MI) (a : Nat) : I a 11 = rdF I a 31 := rfl
theorem at_12 (I : MI) (a : Nat) : I a 12 = rdF I a 32 := rfl
theorem at_f (I : MI) (a : Nat) {f j : Nat} (hf : f < 6) (hj : j < 4) : I (a + 4 + f) (j + 1) = rdF I a (7 + 4 * f + j) := by
  unfold rdF
  rw [if_neg (by omega), if_pos (by omega)]
  congr 1 <;> omega
theorem at_k (I : MI) (a : Nat) {f : Nat} (hf : f < 6) : I (a + 4 + f) 1 = rdF I a (7 + 4 * f) := at_f I a hf (by decide : 0 < 4)
theorem at_m (I : MI) (a : Nat) {f : Nat} (hf : f < 6) : I (a + 4 + f) 2 = rdF I a (8 + 4 * f) := by rw [at_f I a hf (by decide : 1 < 4)]; congr 1; omega
theorem at_y (I : MI) (a : Nat) {f : Nat} (hf : f < 6) : I (a + 4 + f) 3 = rdF I a (9 + 4 * f) := by rw [at_f I a hf (by decide : 2 < 4)]; congr 1; omega
theorem at_j (I : MI) (a : Nat) {f : Nat} (hf : f < 6) : I (a + 4 + f) 4 = rdF I a (10 + 4 * f) := by rw [at_f I a hf (by decide : 3 < 4)]; congr 1; omega
/-- outside the farm's ten cells nothing changes -/
def outF (I I' : MI) (a : Nat) : Prop := ∀ x, (x < a ∨ a + 10 ≤ x) → I' x = I x
theorem outF.rf (I : MI) (a : Nat) : outF I I a := fun _ _ => rfl
theorem outF.tr {I I1 I2 : MI} {a : Nat} (h : outF I I1 a) (h2 : outF I1 I2 a) : outF I I2 a := fun x hx => (h2 x hx).trans (h x hx)
theorem outF.u {I I1 : MI} {a b k : Nat} {v : Int} (h : outF I I1 a) (hb : a ≤ b := by omega) (hb2 : b < a + 10 := by omega) : outF I (u2 I1 b k v) a := by
  intro x hx
  funext j
  unfold u2
  rw [if_neg (by omega)]
  exact congrFun (h x hx) j
/-! what a farm does -/
def noonF (F : Nat → Int) (y : Int) : Bool := decide (y % F 0 = F 0 - 1)
def makesK (k : Int) : Int := if k = 3 then 3 else 1
def tendsK (k : Int) : Int := if k = 2 then 4 else if k = 4 then 2 else 1
def mealK (k m : Int) (noon : Bool) : Int := if k = 3 then m + 1 else if k = 1 ∧ noon = false then (m + 1) / 2 else m
def forgK (k : Int) : Int := if k = 4 then 0 else 1
def handsF (F : Nat → Int) : Nat → Int
  | 0 => 0
  | n + 1 => handsF F n + (if 0 < F (9 + 4 * n) then F (8 + 4 * n) else 0)
def sizeF (F : Nat → Int) : Nat := (F 6).toNat
def sownF (F : Nat → Int) : Int := min (min (F 3) (3 * F 4)) (handsF F (sizeF F))
def teachF (F : Nat → Int) (f : Nat) (least : Int) : Nat → Nat → Int
  | 0 => F
  | o + 1 => if o = f then teachF F f least o else up (teachF F f least o) (9 + 4 * o) (max (teachF F f least o (9 + 4 * o)) least)
def work1 (F : Nat → Int) (f : Nat) : Nat → Int :=
  if F (7 + 4 * f) = 1 ∧ F 1 % 2 = 1 then F
  else if F (10 + 4 * f) = 1 then teachF F f (F (9 + 4 * f) - 1) (sizeF F)
  else if F (10 + 4 * f) = 2 then up F 4 (cut (F 4 + makesK (F (7 + 4 * f))))
  else if F (10 + 4 * f) = 3 then up F 3 (cut (F 3 + tendsK (F (7 + 4 * f))))
  else if F (10 + 4 * f) = 4 then up F 5 (cut (F 5 + 3))
  else F
def workF (F : Nat → Int) : Nat → Nat → Int
  | 0 => F
  | n + 1 => work1 (workF F n) n
def eatF (F : Nat → Int) (noon : Bool) : Nat → Int
  | 0 => 0
  | n + 1 => eatF F noon n + mealK (F (7 + 4 * n)) (F (8 + 4 * n)) noon
def lackF (F : Nat → Int) (noon : Bool) : Int := max 0 (eatF F noon (sizeF F) - F 2)
def feedF (F : Nat → Int) (noon : Bool) : Nat → Int := up F 2 (cut (F 2 - eatF F noon (sizeF F)))
def warm1 (F : Nat → Int) (f : Nat) : Nat → Int := if 0 < F 5 then up F 5 (F 5 - 1) else up (up F 32 (F 32 + 1)) (8 + 4 * f) (max 1 (F (8 + 4 * f) - 1))
def warmF (F : Nat → Int) : Nat → Nat → Int
  | 0 => F
  | n + 1 => warm1 (warmF F n) n
def loseF (F : Nat → Int) : Nat → Int := if F 1 % 5 = 4 then up (up (up F 2 (F 2 - F 2 / 10)) 3 (F 3 - F 3 / 8)) 4 (cut (F 4 - 1)) else up (up F 2 (F 2 - F 2 / 10)) 3 (F 3 - F 3 / 8)
def forgF (F : Nat → Int) : Nat → Nat → Int
  | 0 => F
  | n + 1 => up (forgF F n) (9 + 4 * n) (max 0 (F (9 + 4 * n) - forgK (F (7 + 4 * n))))
def remF (F : Nat → Int) : Nat → Nat → Int
  | 0 => F
  | n + 1 => up (remF F n) (9 + 4 * n) 9
def harvF (F : Nat → Int) (s : Int) : Nat → Int := up (up (up (up F 2 (cut (F 2 + 5 * s))) 3 (cut (F 3 + s))) 4 (cut (F 4 - s / 3))) 5 (cut (F 5 + 10))
/-- the year ahead of its meal -/
def preF (F : Nat → Int) (bad : Bool) : Nat → Int := if noonF F (F 1) then harvF F (if bad then sownF F / 2 else sownF F) else workF F (sizeF F)
/-- behind the meal -/
def postF (F : Nat → Int) (noon : Bool) : Nat → Int := if noon then remF F (sizeF F) else forgF (loseF (warmF F (sizeF F))) (sizeF F)
def wantF (F : Nat → Int) (bad : Bool) : Int := lackF (preF F bad) (noonF F (F 1))
def goF (F : Nat → Int) (bad : Bool) : Nat → Int := up (up (postF (feedF (preF F bad) (noonF F (F 1))) (noonF F (F 1))) 31 (F 31 + wantF F bad)) 1 (F 1 + 1)
/-- what holds of a farm, years up to a bound -/
def FI (F : Nat → Int) (Y : Int) : Prop := (2 ≤ F 0 ∧ F 0 ≤ 70) ∧ (0 ≤ F 1 ∧ F 1 ≤ Y) ∧ (0 ≤ F 2 ∧ F 2 ≤ 9999) ∧ (0 ≤ F 3 ∧ F 3 ≤ 9999) ∧ (0 ≤ F 4 ∧ F 4 ≤ 9999) ∧ (0 ≤ F 5 ∧ F 5 ≤ 9999) ∧ (0 ≤ F 6 ∧ F 6 ≤ 6) ∧
  ∀ f, f < 6 → (0 ≤ F (7 + 4 * f) ∧ F (7 + 4 * f) ≤ 4) ∧ (0 ≤ F (8 + 4 * f) ∧ F (8 + 4 * f) ≤ 20) ∧ (0 ≤ F (9 + 4 * f) ∧ F (9 + 4 * f) ≤ 9) ∧ (0 ≤ F (10 + 4 * f) ∧ F (10 + 4 * f) ≤ 4) ∧ ((f : Int) < F 6 → 1 ≤ F (8 + 4 * f))
theorem cut_in (n : Int) : 0 ≤ cut n ∧ cut n ≤ 9999 := by unfold cut; omega
theorem cut_id {n : Int} (h : 0 ≤ n) (h2 : n ≤ 9999) : cut n = n := by unfold cut; omega
theorem sizeF_le {F : Nat → Int} {Y : Int} (h : FI F Y) : sizeF F ≤ 6 ∧ (sizeF F : Int) = F 6 := by
  have := h.2.2.2.2.2.2.1
  unfold sizeF; omega
theorem handsF_in {F : Nat → Int} {Y : Int} (h : FI F Y) : ∀ n, n ≤ 6 → 0 ≤ handsF F n ∧ handsF F n ≤ 20 * n := by
  intro n
  induction n with
  | zero => intro _; simp [handsF]
  | succ n ih =>
    intro hn
    have h1 := ih (by omega)
    have h2 := (h.2.2.2.2.2.2.2 n (by omega)).2.1
    unfold handsF
    split <;> omega
theorem mealK_in {k m : Int} {noon : Bool} (h : 0 ≤ m) (h2 : m ≤ 20) : 0 ≤ mealK k m noon ∧ mealK k m noon ≤ 21 := by
  unfold mealK
  split
  · omega
  · split <;> omega
theorem eatF_in {F : Nat → Int} {Y : Int} (h : FI F Y) (noon : Bool) : ∀ n, n ≤ 6 → 0 ≤ eatF F noon n ∧ eatF F noon n ≤ 21 * n := by
  intro n
  induction n with
  | zero => intro _; simp [eatF]
  | succ n ih =>
    intro hn
    have h1 := ih (by omega)
    have h2 := (h.2.2.2.2.2.2.2 n (by omega)).2.1
    have h3 := mealK_in (k := F (7 + 4 * n)) (noon := noon) h2.1 h2.2
    unfold eatF
    omega

