/-! what is dead of a farm does not count: its row with nought for it -/
def tr (n : Nat) (F : Nat → Int) : Nat → Int := fun k => if (7 + 4 * n ≤ k ∧ k < 31) ∨ 33 ≤ k then 0 else F k
def trF (F : Nat → Int) : Nat → Int := tr (sizeF F) F
theorem tr_a {n k : Nat} (F : Nat → Int) (h : ¬ ((7 + 4 * n ≤ k ∧ k < 31) ∨ 33 ≤ k)) : tr n F k = F k := by unfold tr; rw [if_neg h]
theorem tr_d {n k : Nat} (F : Nat → Int) (h : (7 + 4 * n ≤ k ∧ k < 31) ∨ 33 ≤ k) : tr n F k = 0 := by unfold tr; rw [if_pos h]
theorem tr_up {n k : Nat} (F : Nat → Int) (v : Int) (h : ¬ ((7 + 4 * n ≤ k ∧ k < 31) ∨ 33 ≤ k)) : tr n (up F k v) = up (tr n F) k v := by
  funext j
  simp only [up_app, tr]
  by_cases hj : j = k
  · subst hj; rw [if_neg h, if_pos rfl, if_pos rfl]
  · rw [if_neg hj, if_neg hj]
theorem tr_sz (n : Nat) (F : Nat → Int) : sizeF (tr n F) = sizeF F := by unfold sizeF; rw [tr_a F (by omega)]
theorem tr_tr (n : Nat) (F : Nat → Int) : tr n (tr n F) = tr n F := by
  funext k
  unfold tr
  split <;> rfl
theorem trF_tr (F : Nat → Int) : trF (trF F) = trF F := by
  unfold trF
  rw [tr_sz, tr_tr]
theorem tr_noon (n : Nat) (F : Nat → Int) (y : Int) : noonF (tr n F) y = noonF F y := by unfold noonF; rw [tr_a F (by omega)]
theorem tr_hands (n : Nat) (hn : n ≤ 6) (F : Nat → Int) : ∀ m, m ≤ n → handsF (tr n F) m = handsF F m := by
  intro m
  induction m with
  | zero => intro _; rfl
  | succ m ih => intro hm; unfold handsF; rw [ih (by omega), tr_a F (by omega), tr_a F (by omega)]
theorem tr_sown {n : Nat} (hn : n ≤ 6) {F : Nat → Int} (hs : sizeF F = n) : sownF (tr n F) = sownF F := by
  unfold sownF
  rw [tr_sz, hs, tr_hands n hn F n (Nat.le_refl n), tr_a F (by omega), tr_a F (by omega)]
theorem tr_teach {n : Nat} (hn : n ≤ 6) (F : Nat → Int) (f : Nat) (l : Int) : ∀ o, o ≤ n → tr n (teachF F f l o) = teachF (tr n F) f l o := by
  intro o
  induction o with
  | zero => intro _; rfl
  | succ o ih =>
    intro ho
    unfold teachF
    split
    · exact ih (by omega)
    · rw [tr_up _ _ (by omega), ih (by omega), ← ih (by omega), tr_a _ (by omega)]
theorem tr_work1 {n : Nat} (hn : n ≤ 6) {F : Nat → Int} (hs : sizeF F = n) {f : Nat} (hf : f < n) : tr n (work1 F f) = work1 (tr n F) f := by
  unfold work1
  rw [tr_sz, hs, tr_a F (k := 7 + 4 * f) (by omega), tr_a F (k := 1) (by omega), tr_a F (k := 10 + 4 * f) (by omega), tr_a F (k := 9 + 4 * f) (by omega), tr_a F (k := 4) (by omega), tr_a F (k := 3) (by omega), tr_a F (k := 5) (by omega)]
  split
  · rfl
  split
  · exact tr_teach hn F f _ n (Nat.le_refl n)
  split
  · exact tr_up _ _ (by omega)
  split
  · exact tr_up _ _ (by omega)
  split
  · exact tr_up _ _ (by omega)
  · rfl
theorem tr_work {n : Nat} (hn : n ≤ 6) {F : Nat → Int} (hs : sizeF F = n) : ∀ m, m ≤ n → tr n (workF F m) = workF (tr n F) m := by
  intro m
  induction m with
  | zero => intro _; rfl
  | succ m ih =>
    intro hm
    have e : sizeF (workF F m) = n := by rw [sz_same (fx_work F (by omega) (by omega) m), hs]
    unfold workF
    rw [tr_work1 hn e (by omega), ih (by omega)]
theorem tr_eat {n : Nat} (hn : n ≤ 6) (F : Nat → Int) (b : Bool) : ∀ m, m ≤ n → eatF (tr n F) b m = eatF F b m := by
  intro m
  induction m with
  | zero => intro _; rfl
  | succ m ih => intro hm; unfold eatF; rw [ih (by omega), tr_a F (by omega), tr_a F (by omega)]
theorem tr_lack {n : Nat} (hn : n ≤ 6) {F : Nat → Int} (hs : sizeF F = n) (b : Bool) : lackF (tr n F) b = lackF F b := by
  unfold lackF
  rw [tr_sz, hs, tr_eat hn F b n (Nat.le_refl n), tr_a F (by omega)]
theorem tr_feed {n : Nat} (hn : n ≤ 6) {F : Nat → Int} (hs : sizeF F = n) (b : Bool) : tr n (feedF F b) = feedF (tr n F) b := by
  unfold feedF
  rw [tr_up _ _ (by omega), tr_sz, hs, tr_eat hn F b n (Nat.le_refl n), tr_a F (k := 2) (by omega)]
theorem tr_warm1 {n : Nat} (F : Nat → Int) {f : Nat} (hn : n ≤ 6) (hf : f < n) : tr n (warm1 F f) = warm1 (tr n F) f := by
  unfold warm1
  rw [tr_a F (k := 5) (by omega), tr_a F (k := 32) (by omega), tr_a F (k := 8 + 4 * f) (by omega)]
  split
  · exact tr_up _ _ (by omega)
  · rw [tr_up _ _ (by omega), tr_up _ _ (by omega)]
theorem tr_warm {n : Nat} (hn : n ≤ 6) (F : Nat → Int) : ∀ m, m ≤ n → tr n (warmF F m) = warmF (tr n F) m := by
  intro m
  induction m with
  | zero => intro _; rfl
  | succ m ih => intro hm; unfold warmF; rw [tr_warm1 _ hn (by omega), ih (by omega)]
theorem tr_lose (n : Nat) (F : Nat → Int) : tr n (loseF F) = loseF (tr n F) := by
  unfold loseF
  rw [tr_a F (k := 1) (by omega), tr_a F (k := 2) (by omega), tr_a F (k := 3) (by omega), tr_a F (k := 4) (by omega)]
  split
  · rw [tr_up _ _ (by omega), tr_up _ _ (by omega), tr_up _ _ (by omega)]
  · rw [tr_up _ _ (by omega), tr_up _ _ (by omega)]
theorem tr_forg {n : Nat} (hn : n ≤ 6) (F : Nat → Int) : ∀ m, m ≤ n → tr n (forgF F m) = forgF (tr n F) m := by
  intro m
  induction m with
  | zero => intro _; rfl
  | succ m ih => intro hm; unfold forgF; rw [tr_up _ _ (by omega), ih (by omega), tr_a F (by omega), tr_a F (by omega)]
theorem tr_rem {n : Nat} (hn : n ≤ 6) (F : Nat → Int) : ∀ m, m ≤ n → tr n (remF F m) = remF (tr n F) m := by
  intro m
  induction m with
  | zero => intro _; rfl
  | succ m ih => intro hm; unfold remF; rw [tr_up _ _ (by omega), ih (by omega)]
theorem tr_harv (n : Nat) (F : Nat → Int) (s : Int) : tr n (harvF F s) = harvF (tr n F) s := by
  unfold harvF
  rw [tr_up _ _ (by omega), tr_up _ _ (by omega), tr_up _ _ (by omega), tr_up _ _ (by omega), tr_a F (k := 2) (by omega), tr_a F (k := 3) (by omega), tr_a F (k := 4) (by omega), tr_a F (k := 5) (by omega)]
theorem tr_pre {n : Nat} (hn : n ≤ 6) {F : Nat → Int} (hs : sizeF F = n) (b : Bool) : tr n (preF F b) = preF (tr n F) b := by
  unfold preF
  rw [tr_noon, tr_a F (k := 1) (by omega), tr_sown hn hs, tr_sz, hs]
  split
  · exact tr_harv n F _
  · exact tr_work hn hs n (Nat.le_refl n)
theorem sz_pre (F : Nat → Int) (b : Bool) : sizeF (preF F b) = sizeF F := sz_same (fx_pre F b (by unfold fixd; omega))
theorem sz_feed (F : Nat → Int) (b : Bool) : sizeF (feedF F b) = sizeF F := sz_same (fx_feed F b (by omega))
theorem sz_go (F : Nat → Int) (b : Bool) : sizeF (goF F b) = sizeF F := sz_same (fx_go F b (by unfold fixd; omega) (by omega))
theorem tr_post {n : Nat} (hn : n ≤ 6) {F : Nat → Int} (hs : sizeF F = n) (b : Bool) : tr n (postF F b) = postF (tr n F) b := by
  have e : sizeF (loseF (warmF F n)) = n := by rw [sz_same (fx_lose _ (by omega)), sz_same (fx_warm F (by omega) (by omega) n), hs]
  unfold postF
  rw [tr_sz, hs]
  split
  · exact tr_rem hn F n (Nat.le_refl n)
  · rw [tr_forg hn _ n (Nat.le_refl n), tr_lose, tr_warm hn F n (Nat.le_refl n)]
theorem tr_want {n : Nat} (hn : n ≤ 6) {F : Nat → Int} (hs : sizeF F = n) (b : Bool) : wantF (tr n F) b = wantF F b := by
  unfold wantF
  rw [← tr_pre hn hs, tr_lack hn (by rw [sz_pre, hs]), tr_noon, tr_a F (by omega)]
theorem tr_go {n : Nat} (hn : n ≤ 6) {F : Nat → Int} (hs : sizeF F = n) (b : Bool) : tr n (goF F b) = goF (tr n F) b := by
  unfold goF
  rw [tr_want hn hs, tr_noon, tr_a F (k := 1) (by omega), tr_a F (k := 31) (by omega), tr_up _ _ (by omega), tr_up _ _ (by omega), tr_post hn (by rw [sz_feed, sz_pre, hs]), tr_feed hn (by rw [sz_pre, hs]), tr_pre hn hs]
theorem tr_jobs {n : Nat} (hn : n ≤ 6) (F : Nat → Int) (j : Int) : ∀ m, m ≤ n → tr n (jobsF F j m) = jobsF (tr n F) j m := by
  intro m
  induction m with
  | zero => intro _; rfl
  | succ m ih => intro hm; unfold jobsF; rw [tr_up _ _ (by omega), ih (by omega)]
theorem tr_tof {n : Nat} (hn : n ≤ 6) (F : Nat → Int) (s : Nat) : ∀ m, m ≤ n → tr n (teachOf F s m) = teachOf (tr n F) s m := by
  intro m
  induction m with
  | zero => intro _; rfl
  | succ m ih => intro hm; unfold teachOf; rw [tr_up _ _ (by omega), ih (by omega), tr_a F (by omega)]
theorem tr_know {n : Nat} (hn : n ≤ 6) (F : Nat → Int) : ∀ m, m ≤ n → knowF (tr n F) m = knowF F m := by
  intro m
  induction m with
  | zero => intro _; rfl
  | succ m ih => intro hm; unfold knowF; rw [ih (by omega), tr_a F (by omega)]
theorem tr_mix {n : Nat} (hn : n ≤ 6) (F : Nat → Int) (h : Int) : ∀ m, m ≤ n → mixF (tr n F) h m = mixF F h m := by
  intro m
  induction m with
  | zero => intro _; rfl
  | succ m ih => intro hm; unfold mixF; rw [ih (by omega), tr_a F (by omega), tr_a F (by omega), tr_a F (by omega), tr_a F (by omega)]
theorem tr_noons (n : Nat) (F : Nat → Int) : ∀ m, noonsF (tr n F) m = noonsF F m := by
  intro m
  induction m with
  | zero => rfl
  | succ m ih => unfold noonsF; rw [ih, tr_noon, tr_a F (by omega)]
theorem tr_set (F H : Nat → Int) : tr (sizeF H) (setF F H) = trF H := by
  funext k
  unfold trF tr
  split
  · rfl
  · rw [setF_app, if_pos (by omega)]
theorem sz_set (F H : Nat → Int) : sizeF (setF F H) = sizeF H := sz_same (by rw [setF_app, if_pos (by omega)])
theorem trF_set (F H : Nat → Int) : trF (setF F H) = trF H := by
  show tr (sizeF (setF F H)) _ = _
  rw [sz_set, tr_set]
theorem trF_go {F : Nat → Int} (h : sizeF F ≤ 6) (b : Bool) : trF (goF F b) = goF (trF F) b := by
  unfold trF
  rw [sz_go, tr_go h rfl]
theorem trF_want {F : Nat → Int} (h : sizeF F ≤ 6) (b : Bool) : wantF (trF F) b = wantF F b := tr_want h rfl b
theorem trF_sz (F : Nat → Int) : sizeF (trF F) = sizeF F := tr_sz _ F
theorem trF_a (F : Nat → Int) {k : Nat} (h : k < 7 ∨ k = 31 ∨ k = 32) (hs : sizeF F ≤ 6 := by assumption) : trF F k = F k := tr_a F (by omega)
theorem trF_up (F : Nat → Int) {k : Nat} (v : Int) (h : k < 6 ∨ k = 31 ∨ k = 32) : trF (up F k v) = up (trF F) k v := by
  unfold trF
  have e : sizeF (up F k v) = sizeF F := sz_same (up_n _ _ (by omega))
  rw [e, tr_up _ _ (by omega)]
theorem trF_jobs {F : Nat → Int} (h : sizeF F ≤ 6) (j : Int) : trF (jobsF F j (sizeF F)) = jobsF (trF F) j (sizeF F) := by
  unfold trF
  rw [sz_same (fx_jobs F j (by omega) _), tr_jobs h F j _ (Nat.le_refl _)]
theorem trF_tof {F : Nat → Int} (h : sizeF F ≤ 6) (s : Nat) : trF (teachOf F s (sizeF F)) = teachOf (trF F) s (sizeF F) := by
  unfold trF
  rw [sz_same (fx_tof F s (by omega) _), tr_tof h F s _ (Nat.le_refl _)]
/-- so many years, none of them with a bad noon -/
def runF (T : Nat → Int) : Nat → Nat → Int
  | 0 => T
  | k + 1 => goF (runF T k) false
theorem sz_run (T : Nat → Int) : ∀ k, sizeF (runF T k) = sizeF T := by
  intro k
  induction k with
  | zero => rfl
  | succ k ih => unfold runF; rw [sz_go, ih]
theorem trF_run {F : Nat → Int} (h : sizeF F ≤ 6) : ∀ k, trF (runF F k) = runF (trF F) k := by
  intro k
  induction k with
  | zero => rfl
  | succ k ih => unfold runF; rw [trF_go (by rw [sz_run]; exact h), ih]
/-- the first of so many that is so; none: -1 -/
def fst (p : Nat → Bool) : Nat → Int
  | 0 => -1
  | n + 1 => if fst p n = -1 then (if p n then (n : Int) else -1) else fst p n
theorem fst_no {p : Nat → Bool} : ∀ n, (∀ k, k < n → p k = false) → fst p n = -1 := by
  intro n
  induction n with
  | zero => intro _; rfl
  | succ n ih => intro h; unfold fst; rw [if_pos (ih fun k hk => h k (by omega)), h n (by omega)]; rfl
theorem fst_at {p : Nat → Bool} {k : Nat} (hk : p k = true) (hb : ∀ j, j < k → p j = false) : ∀ n, k < n → fst p n = k := by
  intro n
  induction n with
  | zero => intro h; omega
  | succ n ih =>
    intro h
    unfold fst
    by_cases hkn : k = n
    · subst hkn; rw [if_pos (fst_no k hb), hk]; rfl
    · rw [ih (by omega), if_neg (by omega)]
theorem fst_eq {p : Nat → Bool} : ∀ n, (fst p n = -1 ∧ ∀ k, k < n → p k = false) ∨ ∃ k : Nat, fst p n = k ∧ k < n ∧ p k = true ∧ ∀ j, j < k → p j = false := by
  intro n
  induction n with
  | zero => exact Or.inl ⟨rfl, fun k hk => by omega⟩
  | succ n ih =>
    rcases ih with ⟨h1, h2⟩ | ⟨k, h1, h2, h3, h4⟩
    · cases hp : p n with
      | false => exact Or.inl ⟨by unfold fst; rw [if_pos h1, hp]; rfl, fun k hk => by
          by_cases hkn : k = n
          · rw [hkn]; exact hp
          · exact h2 k (by omega)⟩
      | true => exact Or.inr ⟨n, by unfold fst; rw [if_pos h1, hp]; rfl, by omega, hp, h2⟩
    · exact Or.inr ⟨k, by unfold fst; rw [h1, if_neg (by omega)], by omega, h3, h4⟩
def wants (T : Nat → Int) (k : Nat) : Bool := decide (0 < wantF (runF T k) false)
def firstF (T : Nat → Int) (n : Nat) : Int := fst (wants T) n


