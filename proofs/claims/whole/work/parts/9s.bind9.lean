/-! the plan: what the class leaves out of its trials makes no difference -/
def sc (f : Nat → Int) (b : Int) : Nat → Int × Int
  | 0 => (b, -1)
  | n + 1 => if (sc f b n).1 < f n then (f n, (n : Int)) else sc f b n
theorem sc_st (f : Nat → Int) (b : Int) (n : Nat) : sc f b (n + 1) = if (sc f b n).1 < f n then (f n, (n : Int)) else sc f b n := rfl
theorem sc_in (f : Nat → Int) (b : Int) : ∀ n, ((sc f b n).2 = -1 ∧ (sc f b n).1 = b) ∨ (0 ≤ (sc f b n).2 ∧ (sc f b n).2 < n ∧ b < (sc f b n).1) := by
  intro n
  induction n with
  | zero => exact Or.inl ⟨rfl, rfl⟩
  | succ n ih =>
    rw [sc_st]
    by_cases h : (sc f b n).1 < f n
    · rw [if_pos h]
      refine Or.inr ⟨Int.natCast_nonneg n, ?_, ?_⟩
      · show (n : Int) < ((n + 1 : Nat) : Int); omega
      · show b < f n
        rcases ih with ⟨h1, h2⟩ | ⟨h1, h2, h3⟩ <;> omega
    · rw [if_neg h]
      rcases ih with ⟨h1, h2⟩ | ⟨h1, h2, h3⟩
      · exact Or.inl ⟨h1, h2⟩
      · exact Or.inr ⟨h1, by omega, h3⟩
theorem sc_ge (f : Nat → Int) (b : Int) : ∀ n c, c < n → f c ≤ (sc f b n).1 := by
  intro n
  induction n with
  | zero => intro c hc; omega
  | succ n ih =>
    intro c hc
    rw [sc_st]
    by_cases h : (sc f b n).1 < f n
    · rw [if_pos h]
      show f c ≤ f n
      by_cases hcn : c = n
      · rw [hcn]; exact Int.le_refl _
      · have := ih c (by omega); omega
    · rw [if_neg h]
      by_cases hcn : c = n
      · rw [hcn]; omega
      · exact ih c (by omega)
theorem sc_none (f : Nat → Int) (b : Int) : ∀ n, (∀ c, c < n → f c ≤ b) → sc f b n = (b, -1) := by
  intro n
  induction n with
  | zero => intro _; rfl
  | succ n ih =>
    intro h
    rw [sc_st, ih (fun c hc => h c (by omega)), if_neg (by have := h n (by omega); show ¬ b < f n; omega)]
theorem scn_eq {f g : Nat → Int} (b : Int) : ∀ n, (∀ c, c < n → f c = g c) → sc f b n = sc g b n := by
  intro n
  induction n with
  | zero => intro _; rfl
  | succ n ih => intro h; rw [sc_st, sc_st, ih (fun c hc => h c (by omega)), h n (by omega)]
theorem sc_add (f : Nat → Int) (b : Int) (m : Nat) : ∀ n, sc f b (m + n) = if (sc (fun c => f (m + c)) (sc f b m).1 n).2 = -1 then sc f b m else ((sc (fun c => f (m + c)) (sc f b m).1 n).1, (m : Int) + (sc (fun c => f (m + c)) (sc f b m).1 n).2) := by
  intro n
  induction n with
  | zero => exact (if_pos rfl).symm
  | succ n ih =>
    have hi := sc_in (fun c => f (m + c)) (sc f b m).1 n
    rw [← Nat.add_assoc, sc_st, ih, sc_st (fun c => f (m + c))]
    generalize sc (fun c => f (m + c)) (sc f b m).1 n = z at hi ⊢
    have e : (if z.2 = -1 then sc f b m else (z.1, (m : Int) + z.2)).1 = z.1 := by
      rcases hi with ⟨h1, h2⟩ | ⟨h1, h2, h3⟩
      · rw [if_pos h1, h2]
      · rw [if_neg (by omega)]
    rw [e]
    by_cases h : z.1 < f (m + n)
    · rw [if_pos h, if_pos h, if_neg (by show ¬ (n : Int) = -1; omega)]
      show (f (m + n), ((m + n : Nat) : Int)) = (f (m + n), (m : Int) + (n : Int))
      rw [Int.natCast_add]
    · rw [if_neg h, if_neg h]
/-- states that differ in the jobs of those that are there -/
def EJ (n : Nat) (A B : Nat → Int) : Prop := ∀ k, ¬ (10 ≤ k ∧ k < 7 + 4 * n ∧ k % 4 = 2) → A k = B k
theorem jobs_app (F : Nat → Int) (j : Int) (k : Nat) : ∀ n, jobsF F j n k = if 10 ≤ k ∧ k < 7 + 4 * n ∧ k % 4 = 2 then j else F k := by
  intro n
  induction n with
  | zero => rw [if_neg (by omega)]; rfl
  | succ n ih =>
    show up (jobsF F j n) (10 + 4 * n) j k = _
    rw [up_app, ih]
    by_cases h : k = 10 + 4 * n
    · rw [if_pos h, if_pos (by omega)]
    · rw [if_neg h]
      by_cases h2 : 10 ≤ k ∧ k < 7 + 4 * n ∧ k % 4 = 2
      · rw [if_pos h2, if_pos (by omega)]
      · rw [if_neg h2, if_neg (by omega)]
theorem EJ_jobs (T : Nat → Int) (i j : Int) (n : Nat) : EJ n (jobsF T i n) (jobsF T j n) := fun k hk => by rw [jobs_app, jobs_app, if_neg hk, if_neg hk]
theorem jobs_EJ {n : Nat} {A B : Nat → Int} (h : EJ n A B) (j : Int) : jobsF A j n = jobsF B j n := by
  funext k
  rw [jobs_app, jobs_app]
  by_cases hk : 10 ≤ k ∧ k < 7 + 4 * n ∧ k % 4 = 2
  · rw [if_pos hk, if_pos hk]
  · rw [if_neg hk, if_neg hk, h k hk]
theorem EJ_up {n : Nat} {A B : Nat → Int} (h : EJ n A B) (k : Nat) {v w : Int} (e : v = w) : EJ n (up A k v) (up B k w) := fun x hx => by
  rw [up_app, up_app, e, h x hx]
theorem EJ_sz {n : Nat} {A B : Nat → Int} (h : EJ n A B) : sizeF A = sizeF B := by unfold sizeF; rw [h 6 (by omega)]
theorem eat_eq {A B : Nat → Int} (b : Bool) : ∀ n, (∀ f, f < n → A (7 + 4 * f) = B (7 + 4 * f) ∧ A (8 + 4 * f) = B (8 + 4 * f)) → eatF A b n = eatF B b n := by
  intro n
  induction n with
  | zero => intro _; rfl
  | succ n ih => intro h; unfold eatF; rw [ih (fun f hf => h f (by omega)), (h n (by omega)).1, (h n (by omega)).2]
theorem EJ_eat {n : Nat} {A B : Nat → Int} (h : EJ n A B) (b : Bool) (m : Nat) : eatF A b m = eatF B b m := eat_eq b m (fun f _ => ⟨h _ (by omega), h _ (by omega)⟩)
theorem EJ_hands {n : Nat} {A B : Nat → Int} (h : EJ n A B) : ∀ m, handsF A m = handsF B m := by
  intro m
  induction m with
  | zero => rfl
  | succ m ih => unfold handsF; rw [ih, h (9 + 4 * m) (by omega), h (8 + 4 * m) (by omega)]
theorem EJ_sown {n : Nat} {A B : Nat → Int} (h : EJ n A B) : sownF A = sownF B := by
  unfold sownF
  rw [EJ_sz h, EJ_hands h, h 3 (by omega), h 4 (by omega)]
theorem EJ_noon {n : Nat} {A B : Nat → Int} (h : EJ n A B) : noonF A (A 1) = noonF B (B 1) := by
  unfold noonF
  rw [h 0 (by omega), h 1 (by omega)]
theorem EJ_harv {n : Nat} {A B : Nat → Int} (h : EJ n A B) (s : Int) : EJ n (harvF A s) (harvF B s) := by
  unfold harvF
  exact EJ_up (EJ_up (EJ_up (EJ_up h 2 (by rw [h 2 (by omega)])) 3 (by rw [h 3 (by omega)])) 4 (by rw [h 4 (by omega)])) 5 (by rw [h 5 (by omega)])
theorem EJ_lack {n : Nat} {A B : Nat → Int} (h : EJ n A B) (b : Bool) : lackF A b = lackF B b := by
  unfold lackF
  rw [EJ_sz h, EJ_eat h, h 2 (by omega)]
theorem work_eat {n : Nat} {A B : Nat → Int} (h : EJ n A B) (b : Bool) (x y m : Nat) : eatF (workF A x) b m = eatF (workF B y) b m := eat_eq b m (fun f _ => by
  rw [fx_work A (by omega) (by omega), fx_work B (by omega) (by omega), fx_work A (k := 8 + 4 * f) (by omega) (by omega), fx_work B (k := 8 + 4 * f) (by omega) (by omega)]
  exact ⟨h _ (by omega), h _ (by omega)⟩)
theorem work_k {n : Nat} {A B : Nat → Int} (h : EJ n A B) (x y : Nat) {k : Nat} (hk : k = 1 ∨ k = 2 ∨ k = 6) : workF A x k = workF B y k := by
  rw [fx_work A (by omega) (by omega), fx_work B (by omega) (by omega)]
  exact h k (by omega)
theorem work_sz (A : Nat → Int) (x : Nat) : sizeF (workF A x) = sizeF A := by unfold sizeF; rw [fx_work A (by omega) (by omega)]
theorem EJ_want {n : Nat} {A B : Nat → Int} (h : EJ n A B) (b : Bool) : wantF A b = wantF B b := by
  unfold wantF preF
  rw [EJ_noon h]
  by_cases hn : noonF B (B 1) = true
  · rw [if_pos hn, if_pos hn, EJ_sown h]
    exact EJ_lack (EJ_harv h _) _
  · rw [if_neg hn, if_neg hn]
    unfold lackF
    rw [work_sz, work_sz, work_eat h _ (sizeF A) (sizeF B), work_k h (sizeF A) (sizeF B) (Or.inr (Or.inl rfl)), EJ_sz h]
theorem feed_k (A : Nat → Int) (b : Bool) {k : Nat} (hk : k ≠ 2) : feedF A b k = A k := fx_feed A b hk
theorem lose_2 (F : Nat → Int) : loseF F 2 = F 2 - F 2 / 10 := by
  unfold loseF
  split
  · rw [up_n _ _ (by decide), up_n _ _ (by decide), up_s]
  · rw [up_n _ _ (by decide), up_s]
theorem EJ_rem {n : Nat} {A B : Nat → Int} (h : EJ n A B) : ∀ m, EJ n (remF A m) (remF B m) := by
  intro m
  induction m with
  | zero => exact h
  | succ m ih => exact EJ_up ih _ rfl
theorem EJ_go2 {n : Nat} {A B : Nat → Int} (h : EJ n A B) (b : Bool) : goF A b 2 = goF B b 2 := by
  unfold goF
  rw [up_n _ _ (by decide), up_n _ _ (by decide), up_n _ _ (by decide), up_n _ _ (by decide), EJ_noon h]
  unfold postF preF
  rw [EJ_noon h]
  by_cases hn : noonF B (B 1) = true
  · rw [if_pos hn, if_pos hn, if_pos hn, if_pos hn, fx_rem _ (by omega), fx_rem _ (by omega), EJ_sown h]
    unfold feedF
    have hh := EJ_harv h (if b = true then sownF B / 2 else sownF B)
    rw [up_s, up_s, EJ_sz hh, EJ_eat hh, hh 2 (by omega)]
  · rw [if_neg hn, if_neg hn, if_neg hn, if_neg hn, fx_forg _ (by omega), fx_forg _ (by omega), lose_2, lose_2, fx_warm _ (by omega) (by decide), fx_warm _ (by omega) (by decide)]
    unfold feedF
    rw [up_s, up_s, work_sz, work_sz, work_eat h _ (sizeF A) (sizeF B), work_k h (sizeF A) (sizeF B) (Or.inr (Or.inl rfl)), EJ_sz h]
theorem EJ_goN {n : Nat} {A B : Nat → Int} (h : EJ n A B) (b : Bool) (hn : noonF B (B 1) = true) : EJ n (goF A b) (goF B b) := by
  unfold goF
  refine EJ_up (EJ_up ?_ 31 (by rw [EJ_want h, h 31 (by omega)])) 1 (by rw [h 1 (by omega)])
  rw [EJ_noon h]
  unfold postF preF
  rw [EJ_noon h, if_pos hn, if_pos hn, if_pos hn, if_pos hn, EJ_sown h]
  have hh := EJ_harv h (if b = true then sownF B / 2 else sownF B)
  have hf : EJ n (feedF (harvF A (if b = true then sownF B / 2 else sownF B)) (noonF B (B 1))) (feedF (harvF B (if b = true then sownF B / 2 else sownF B)) (noonF B (B 1))) := by
    unfold feedF
    exact EJ_up hh 2 (by rw [EJ_sz hh, EJ_eat hh, hh 2 (by omega)])
  rw [EJ_sz hf]
  exact EJ_rem hf _

