/-! what a year leaves: the bounds, and what no year changes -/
def fixd (k : Nat) : Prop := k = 0 ∨ k = 1 ∨ k = 6 ∨ (7 ≤ k ∧ k < 31 ∧ (k % 4 = 3 ∨ k % 4 = 2))
theorem FI_st {F : Nat → Int} {Y v : Int} {k : Nat} (h : FI F Y) (hk : 2 ≤ k ∧ k ≤ 5) (h0 : 0 ≤ v) (h1 : v ≤ 9999) : FI (up F k v) Y := by
  obtain ⟨a0, a1, a2, a3, a4, a5, a6, a7⟩ := h
  refine ⟨by rw [up_n _ _ (by omega)]; exact a0, by rw [up_n _ _ (by omega)]; exact a1, ?_, ?_, ?_, ?_, by rw [up_n _ _ (by omega)]; exact a6, fun f hf => ?_⟩
  · rw [up_app]; split <;> omega
  · rw [up_app]; split <;> omega
  · rw [up_app]; split <;> omega
  · rw [up_app]; split <;> omega
  · rw [up_n _ _ (by omega), up_n _ _ (by omega), up_n _ _ (by omega), up_n _ _ (by omega), up_n _ _ (by omega)]; exact a7 f hf
theorem FI_hi {F : Nat → Int} {Y v : Int} {k : Nat} (h : FI F Y) (hk : 31 ≤ k) : FI (up F k v) Y := by
  obtain ⟨a0, a1, a2, a3, a4, a5, a6, a7⟩ := h
  refine ⟨by rw [up_n _ _ (by omega)]; exact a0, by rw [up_n _ _ (by omega)]; exact a1, by rw [up_n _ _ (by omega)]; exact a2, by rw [up_n _ _ (by omega)]; exact a3, by rw [up_n _ _ (by omega)]; exact a4, by rw [up_n _ _ (by omega)]; exact a5, by rw [up_n _ _ (by omega)]; exact a6, fun f hf => ?_⟩
  rw [up_n _ _ (by omega), up_n _ _ (by omega), up_n _ _ (by omega), up_n _ _ (by omega), up_n _ _ (by omega)]; exact a7 f hf
theorem FI_yr {F : Nat → Int} {Y Y2 v : Int} (h : FI F Y) (h0 : 0 ≤ v) (h1 : v ≤ Y2) : FI (up F 1 v) Y2 := by
  obtain ⟨a0, a1, a2, a3, a4, a5, a6, a7⟩ := h
  refine ⟨by rw [up_n _ _ (by omega)]; exact a0, by rw [up_s]; exact ⟨h0, h1⟩, by rw [up_n _ _ (by omega)]; exact a2, by rw [up_n _ _ (by omega)]; exact a3, by rw [up_n _ _ (by omega)]; exact a4, by rw [up_n _ _ (by omega)]; exact a5, by rw [up_n _ _ (by omega)]; exact a6, fun f hf => ?_⟩
  rw [up_n _ _ (by omega), up_n _ _ (by omega), up_n _ _ (by omega), up_n _ _ (by omega), up_n _ _ (by omega)]; exact a7 f hf
theorem FI_fam {F : Nat → Int} {Y v : Int} {g j : Nat} (h : FI F Y) (hj : j = 1 ∧ 1 ≤ v ∧ v ≤ 20 ∨ j = 2 ∧ 0 ≤ v ∧ v ≤ 9 ∨ j = 3 ∧ 0 ≤ v ∧ v ≤ 4 ∨ j = 0 ∧ 0 ≤ v ∧ v ≤ 4) : FI (up F (7 + j + 4 * g) v) Y := by
  obtain ⟨a0, a1, a2, a3, a4, a5, a6, a7⟩ := h
  refine ⟨by rw [up_n _ _ (by omega)]; exact a0, by rw [up_n _ _ (by omega)]; exact a1, by rw [up_n _ _ (by omega)]; exact a2, by rw [up_n _ _ (by omega)]; exact a3, by rw [up_n _ _ (by omega)]; exact a4, by rw [up_n _ _ (by omega)]; exact a5, by rw [up_n _ _ (by omega)]; exact a6, fun f hf => ?_⟩
  have h7 := a7 f hf
  rw [up_n F (j := 6) _ (by omega)]
  refine ⟨?_, ?_, ?_, ?_, ?_⟩
  · rw [up_app]; split <;> omega
  · rw [up_app]; split <;> omega
  · rw [up_app]; split <;> omega
  · rw [up_app]; split <;> omega
  · rw [up_app]; split <;> omega
theorem FI_mou {F : Nat → Int} {Y v : Int} {g : Nat} (h : FI F Y) (h0 : 1 ≤ v) (h1 : v ≤ 20) : FI (up F (8 + 4 * g) v) Y := FI_fam (j := 1) h (by omega)
theorem FI_mem {F : Nat → Int} {Y v : Int} {g : Nat} (h : FI F Y) (h0 : 0 ≤ v) (h1 : v ≤ 9) : FI (up F (9 + 4 * g) v) Y := FI_fam (j := 2) h (by omega)
theorem FI_job {F : Nat → Int} {Y v : Int} {g : Nat} (h : FI F Y) (h0 : 0 ≤ v) (h1 : v ≤ 4) : FI (up F (10 + 4 * g) v) Y := FI_fam (j := 3) h (by omega)
theorem fx_teach (F : Nat → Int) (f : Nat) (l : Int) {k : Nat} (hk : ¬ (7 ≤ k ∧ k % 4 = 1)) : ∀ o, teachF F f l o k = F k := by
  intro o
  induction o with
  | zero => rfl
  | succ o ih =>
    unfold teachF
    split
    · exact ih
    · rw [up_n _ _ (by omega)]; exact ih
theorem fx_work1 (F : Nat → Int) (f : Nat) {k : Nat} (hk : ¬ (7 ≤ k ∧ k % 4 = 1)) (hk2 : ¬ (3 ≤ k ∧ k ≤ 5)) : work1 F f k = F k := by
  unfold work1
  repeat' split
  · rfl
  · exact fx_teach F f _ hk _
  · rw [up_n _ _ (by omega)]
  · rw [up_n _ _ (by omega)]
  · rw [up_n _ _ (by omega)]
  · rfl
theorem fx_work (F : Nat → Int) {k : Nat} (hk : ¬ (7 ≤ k ∧ k % 4 = 1)) (hk2 : ¬ (3 ≤ k ∧ k ≤ 5)) : ∀ n, workF F n k = F k := by
  intro n
  induction n with
  | zero => rfl
  | succ n ih => unfold workF; rw [fx_work1 _ _ hk hk2]; exact ih
theorem fx_warm (F : Nat → Int) {k : Nat} (hk : ¬ (7 ≤ k ∧ k % 4 = 0)) (hk2 : k ≠ 5 ∧ k ≠ 32) : ∀ n, warmF F n k = F k := by
  intro n
  induction n with
  | zero => rfl
  | succ n ih =>
    unfold warmF warm1
    split
    · rw [up_n _ _ (by omega)]; exact ih
    · rw [up_n _ _ (by omega), up_n _ _ (by omega)]; exact ih
theorem fx_lose (F : Nat → Int) {k : Nat} (hk : ¬ (2 ≤ k ∧ k ≤ 4)) : loseF F k = F k := by
  unfold loseF
  split
  · rw [up_n _ _ (by omega), up_n _ _ (by omega), up_n _ _ (by omega)]
  · rw [up_n _ _ (by omega), up_n _ _ (by omega)]
theorem fx_forg (F : Nat → Int) {k : Nat} (hk : ¬ (7 ≤ k ∧ k % 4 = 1)) : ∀ n, forgF F n k = F k := by
  intro n
  induction n with
  | zero => rfl
  | succ n ih => unfold forgF; rw [up_n _ _ (by omega)]; exact ih
theorem fx_rem (F : Nat → Int) {k : Nat} (hk : ¬ (7 ≤ k ∧ k % 4 = 1)) : ∀ n, remF F n k = F k := by
  intro n
  induction n with
  | zero => rfl
  | succ n ih => unfold remF; rw [up_n _ _ (by omega)]; exact ih
theorem fx_harv (F : Nat → Int) (s : Int) {k : Nat} (hk : ¬ (2 ≤ k ∧ k ≤ 5)) : harvF F s k = F k := by
  unfold harvF
  rw [up_n _ _ (by omega), up_n _ _ (by omega), up_n _ _ (by omega), up_n _ _ (by omega)]
theorem fx_feed (F : Nat → Int) (n : Bool) {k : Nat} (hk : k ≠ 2) : feedF F n k = F k := up_n _ _ hk
theorem FI_teach {F : Nat → Int} {Y l : Int} {f : Nat} (h : FI F Y) (hl : l ≤ 9) : ∀ o, o ≤ 6 → FI (teachF F f l o) Y := by
  intro o
  induction o with
  | zero => intro _; exact h
  | succ o ih =>
    intro ho
    have h1 := ih (by omega)
    unfold teachF
    split
    · exact h1
    · have h2 := (h1.2.2.2.2.2.2.2 o (by omega)).2.2.1
      exact FI_mem h1 (by omega) (by omega)
theorem FI_work1 {F : Nat → Int} {Y : Int} {f : Nat} (h : FI F Y) (hf : f < 6) : FI (work1 F f) Y := by
  have h2 := (h.2.2.2.2.2.2.2 f hf).2.2.1
  unfold work1
  repeat' split
  · exact h
  · exact FI_teach h (by omega) _ (sizeF_le h).1
  · exact FI_st h (by omega) (cut_in _).1 (cut_in _).2
  · exact FI_st h (by omega) (cut_in _).1 (cut_in _).2
  · exact FI_st h (by omega) (cut_in _).1 (cut_in _).2
  · exact h
theorem FI_work {F : Nat → Int} {Y : Int} (h : FI F Y) : ∀ n, n ≤ 6 → FI (workF F n) Y := by
  intro n
  induction n with
  | zero => intro _; exact h
  | succ n ih => intro hn; exact FI_work1 (ih (by omega)) (by omega)
theorem FI_feed {F : Nat → Int} {Y : Int} (h : FI F Y) (noon : Bool) : FI (feedF F noon) Y := FI_st h (by omega) (cut_in _).1 (cut_in _).2
theorem FI_warm1 {F : Nat → Int} {Y : Int} {f : Nat} (h : FI F Y) (hf : f < 6) : FI (warm1 F f) Y := by
  have h2 := (h.2.2.2.2.2.2.2 f hf).2.1
  have h3 := h.2.2.2.2.2.1
  unfold warm1
  split
  · exact FI_st h (by omega) (by omega) (by omega)
  · exact FI_mou (FI_hi h (by omega)) (by omega) (by omega)
theorem FI_warm {F : Nat → Int} {Y : Int} (h : FI F Y) : ∀ n, n ≤ 6 → FI (warmF F n) Y := by
  intro n
  induction n with
  | zero => intro _; exact h
  | succ n ih => intro hn; exact FI_warm1 (ih (by omega)) (by omega)
theorem FI_lose {F : Nat → Int} {Y : Int} (h : FI F Y) : FI (loseF F) Y := by
  have h2 := h.2.2.1
  have h3 := h.2.2.2.1
  unfold loseF
  split
  · exact FI_st (FI_st (FI_st h (by omega) (by omega) (by omega)) (by omega) (by omega) (by omega)) (by omega) (cut_in _).1 (cut_in _).2
  · exact FI_st (FI_st h (by omega) (by omega) (by omega)) (by omega) (by omega) (by omega)
theorem FI_forg {F : Nat → Int} {Y : Int} (h : FI F Y) : ∀ n, n ≤ 6 → FI (forgF F n) Y := by
  intro n
  induction n with
  | zero => intro _; exact h
  | succ n ih =>
    intro hn
    have h2 := (h.2.2.2.2.2.2.2 n (by omega)).2.2.1
    exact FI_mem (ih (by omega)) (by omega) (by unfold forgK; split <;> omega)
theorem FI_rem {F : Nat → Int} {Y : Int} (h : FI F Y) : ∀ n, FI (remF F n) Y := by
  intro n
  induction n with
  | zero => exact h
  | succ n ih => exact FI_mem ih (by omega) (by omega)
theorem FI_harv {F : Nat → Int} {Y : Int} (h : FI F Y) (s : Int) : FI (harvF F s) Y :=
  FI_st (FI_st (FI_st (FI_st h (by omega) (cut_in _).1 (cut_in _).2) (by omega) (cut_in _).1 (cut_in _).2) (by omega) (cut_in _).1 (cut_in _).2) (by omega) (cut_in _).1 (cut_in _).2
theorem FI_pre {F : Nat → Int} {Y : Int} (h : FI F Y) (bad : Bool) : FI (preF F bad) Y := by
  unfold preF
  split
  · exact FI_harv h _
  · exact FI_work h _ (sizeF_le h).1
theorem FI_post {F : Nat → Int} {Y : Int} (h : FI F Y) (noon : Bool) : FI (postF F noon) Y := by
  unfold postF
  split
  · exact FI_rem h _
  · exact FI_forg (FI_lose (FI_warm h _ (sizeF_le h).1)) _ (sizeF_le h).1
theorem FI_go {F : Nat → Int} {Y : Int} (h : FI F Y) (bad : Bool) : FI (goF F bad) (Y + 1) := by
  have h1 := h.2.1
  exact FI_yr (FI_hi (FI_post (FI_feed (FI_pre h bad) _) _) (by omega)) (by omega) (by omega)
theorem fx_pre (F : Nat → Int) (bad : Bool) {k : Nat} (hk : fixd k) : preF F bad k = F k := by
  unfold fixd at hk
  unfold preF
  split
  · exact fx_harv F _ (by omega)
  · exact fx_work F (by omega) (by omega) _
theorem fx_post (F : Nat → Int) (noon : Bool) {k : Nat} (hk : fixd k) : postF F noon k = F k := by
  unfold fixd at hk
  unfold postF
  split
  · exact fx_rem F (by omega) _
  · rw [fx_forg _ (by omega), fx_lose _ (by omega), fx_warm _ (by omega) (by omega)]
theorem fx_go (F : Nat → Int) (bad : Bool) {k : Nat} (hk : fixd k) (h1 : k ≠ 1) : goF F bad k = F k := by
  have hk' := hk
  unfold fixd at hk'
  unfold goF
  rw [up_n _ _ h1, up_n _ _ (by omega), fx_post _ _ hk, fx_feed _ _ (by omega), fx_pre _ _ hk]
theorem sz_same {F F' : Nat → Int} (h : F' 6 = F 6) : sizeF F' = sizeF F := by unfold sizeF; rw [h]


