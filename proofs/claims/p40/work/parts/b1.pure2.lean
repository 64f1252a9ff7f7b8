/-! what the law asks of the years to come -/
theorem FI_runF {T : Nat → Int} {Y : Int} (h : FI T Y) : ∀ k : Nat, FI (runF T k) (Y + k) := by
  intro k
  induction k with
  | zero => exact FI_le h (by omega)
  | succ k ih =>
    have h1 := FI_go ih false
    show FI (goF (runF T k) false) _
    rw [show Y + ((k + 1 : Nat) : Int) = Y + k + 1 by omega]; exact h1
def sumW (T : Nat → Int) : Nat → Int
  | 0 => 0
  | k + 1 => sumW T k + wantF (runF T k) false
theorem sumW_in {T : Nat → Int} {Y : Int} (h : FI T Y) : ∀ k : Nat, 0 ≤ sumW T k ∧ sumW T k ≤ 126 * (k : Int) := by
  intro k
  induction k with
  | zero => show (0 : Int) ≤ 0 ∧ (0 : Int) ≤ 126 * ((0 : Nat) : Int); omega
  | succ k ih =>
    have h1 := wantF_in (FI_runF h k) false
    show 0 ≤ sumW T k + wantF (runF T k) false ∧ sumW T k + wantF (runF T k) false ≤ _
    omega
theorem go_31 (F : Nat → Int) (b : Bool) : goF F b 31 = F 31 + wantF F b := by unfold goF; rw [up_n _ _ (by omega), up_s]
theorem run_31 (T : Nat → Int) : ∀ k, runF T k 31 = T 31 + sumW T k := by
  intro k
  induction k with
  | zero => show T 31 = T 31 + 0; omega
  | succ k ih =>
    show goF (runF T k) false 31 = T 31 + (sumW T k + wantF (runF T k) false)
    rw [go_31, ih]; omega
theorem go_1' (F : Nat → Int) (b : Bool) : goF F b 1 = F 1 + 1 := by unfold goF; rw [up_s]
theorem run_1 (T : Nat → Int) : ∀ k : Nat, runF T k 1 = T 1 + k := by
  intro k
  induction k with
  | zero => show T 1 = T 1 + ((0 : Nat) : Int); omega
  | succ k ih =>
    show goF (runF T k) false 1 = _
    rw [go_1', ih]; omega
theorem run_6 (T : Nat → Int) : ∀ k : Nat, runF T k 6 = T 6 := by
  intro k
  induction k with
  | zero => rfl
  | succ k ih =>
    show goF (runF T k) false 6 = _
    rw [fx_go _ _ (by unfold fixd; omega) (by omega), ih]
theorem first_in (T : Nat → Int) (m : Nat) : -1 ≤ firstF T m ∧ firstF T m < (m : Int) := by
  unfold firstF
  rcases fst_eq (p := wants T) m with ⟨h, -⟩ | ⟨k, h, hk, -⟩
  · rw [h]; omega
  · rw [h]; omega
theorem first_no {T : Nat → Int} {m k : Nat} {Y : Int} (hF : FI T Y) (hk : k < m) (h : firstF T m < 0 ∨ (k : Int) < firstF T m) : wantF (runF T k) false = 0 := by
  have h0 := wantF_in (FI_runF hF k) false
  have hw : wants T k = false := by
    unfold firstF at h
    rcases fst_eq (p := wants T) m with ⟨h1, h2⟩ | ⟨j, h1, h2, h3, h4⟩
    · exact h2 k hk
    · rw [h1] at h; exact h4 k (by omega)
  have := of_decide_eq_false hw
  omega
theorem first_at {T : Nat → Int} {m k : Nat} (h : firstF T m = (k : Int)) : wantF (runF T k) false ≠ 0 := by
  unfold firstF at h
  rcases fst_eq (p := wants T) m with ⟨h1, h2⟩ | ⟨j, h1, h2, h3, h4⟩
  · rw [h1] at h; omega
  · rw [h1] at h
    obtain rfl : j = k := by omega
    have := of_decide_eq_true h3
    omega
theorem held_in (T : Nat → Int) (m : Nat) : -1 ≤ heldF T m ∧ heldF T m ≤ 999 := by
  unfold heldF
  rcases fst_eq (p := enough T m) 1000 with ⟨h, -⟩ | ⟨k, h, hk, -⟩
  · rw [h]; omega
  · rw [h]; omega
theorem held_ok {T : Nat → Int} {m : Nat} (h : 0 ≤ heldF T m) : firstF (up T 2 (heldF T m)) m = -1 := by
  unfold heldF at *
  rcases fst_eq (p := enough T m) 1000 with ⟨h1, h2⟩ | ⟨j, h1, h2, h3, h4⟩
  · rw [h1] at h; omega
  · rw [h1]; exact of_decide_eq_true h3
theorem held_low {T : Nat → Int} {m : Nat} (h : 0 < heldF T m) : 0 ≤ firstF (up T 2 (heldF T m - 1)) m := by
  have hi := first_in (up T 2 (heldF T m - 1)) m
  have hne : firstF (up T 2 (heldF T m - 1)) m ≠ -1 := by
    unfold heldF at *
    rcases fst_eq (p := enough T m) 1000 with ⟨h1, h2⟩ | ⟨j, h1, h2, h3, h4⟩
    · rw [h1] at h; omega
    · rw [h1] at h ⊢
      have h5 := of_decide_eq_false (h4 (j - 1) (by omega))
      rw [show ((j - 1 : Nat) : Int) = (j : Int) - 1 by omega] at h5
      exact h5
  omega
theorem held_none {T : Nat → Int} {m : Nat} (h : heldF T m < 0) : 0 ≤ firstF (up T 2 999) m := by
  have hi := first_in (up T 2 999) m
  have hne : firstF (up T 2 999) m ≠ -1 := by
    unfold heldF at *
    rcases fst_eq (p := enough T m) 1000 with ⟨h1, h2⟩ | ⟨j, h1, h2, h3, h4⟩
    · exact of_decide_eq_false (h2 999 (by omega))
    · rw [h1] at h; omega
  omega
theorem few_keep (T : Nat → Int) (m : Nat) : ∀ s : Nat, 0 ≤ fewT T m s → keepF T m (fewT T m s).toNat = true := by
  intro s
  induction s with
  | zero => intro h; exact absurd h (by show ¬ (0 : Int) ≤ -1; omega)
  | succ s ih =>
    intro h
    unfold fewT at h ⊢
    split
    · next hc => rw [Int.toNat_natCast]; exact hc.2
    · next hc => rw [if_neg hc] at h; exact ih h
theorem know_at {F : Nat → Int} : ∀ {n : Nat}, knowF F n = true → ∀ f, f < n → 0 < F (9 + 4 * f) := by
  intro n
  induction n with
  | zero => intro _ f hf; omega
  | succ n ih =>
    intro h f hf
    unfold knowF at h
    rw [Bool.and_eq_true] at h
    by_cases hfn : f = n
    · subst hfn; exact of_decide_eq_true h.2
    · exact ih h.1 f (by omega)
/-! the plan: its best GRAIN and its first JOB -/
def bestJ (v : Nat → Int) : Nat → Int
  | 0 => -1
  | j + 1 => max (bestJ v j) (v j)
def bestV : Nat → (Nat → Int) → Int
  | 0, T => T 2
  | k + 1, T => bestJ (fun j => if wantF (jobsF T j (sizeF T)) false = 0 then bestV k (goF (jobsF T j (sizeF T)) false) else -1) (if noonF T (T 1) = true ∨ k = 0 then 1 else 5)
theorem bestJ_lo (v : Nat → Int) : ∀ j, -1 ≤ bestJ v j := by
  intro j
  induction j with
  | zero => show (-1 : Int) ≤ -1; omega
  | succ j ih => show -1 ≤ max (bestJ v j) (v j); omega
theorem bestV_lo {T : Nat → Int} {Y : Int} (h : FI T Y) (k : Nat) : -1 ≤ bestV k T := by
  cases k with
  | zero => have := h.2.2.1.1; show -1 ≤ T 2; omega
  | succ k => exact bestJ_lo _ _
def vJ (k : Nat) (T : Nat → Int) (j : Nat) : Int := if wantF (jobsF T j (sizeF T)) false = 0 then bestV k (goF (jobsF T j (sizeF T)) false) else -1
def cntJ (k : Nat) (T : Nat → Int) : Nat := if noonF T (T 1) = true ∨ k = 0 then 1 else 5
theorem bestV_s (k : Nat) (T : Nat → Int) : bestV (k + 1) T = bestJ (vJ k T) (cntJ k T) := rfl
theorem planR_s (k D : Nat) (T : Nat → Int) (s : PS) : planR (k + 1) D T s = planJ (planR k (D + 1)) T D (cntJ k T) s := rfl
theorem planJ_v {k : Nat} (hgo : ∀ (D : Nat) (T : Nat → Int) (s : PS), -1 ≤ s.1 → (planR k D T s).1 = max s.1 (bestV k T)) (D : Nat) (T : Nat → Int) (s : PS) (hs : -1 ≤ s.1) : ∀ cnt : Nat, (planJ (planR k (D + 1)) T D cnt s).1 = max s.1 (bestJ (vJ k T) cnt) := by
  intro cnt
  induction cnt with
  | zero => show s.1 = max s.1 (-1); omega
  | succ j ih =>
    unfold planJ bestJ
    generalize planJ (planR k (D + 1)) T D j s = q at ih ⊢
    have hz := bestJ_lo (vJ k T) j
    generalize bestJ (vJ k T) j = z at ih hz ⊢
    unfold vJ
    split
    · have h2 := hgo (D + 1) (goF (jobsF T (j : Int) (sizeF T)) false) (q.1, up q.2.1 D (j : Int), q.2.2) (by show -1 ≤ q.1; omega)
      rw [h2]
      show max q.1 _ = _
      omega
    · show q.1 = _
      omega
theorem planR_v : ∀ (k D : Nat) (T : Nat → Int) (s : PS), -1 ≤ s.1 → (planR k D T s).1 = max s.1 (bestV k T) := by
  intro k
  induction k with
  | zero =>
    intro D T s _
    unfold planR bestV
    split
    · show T 2 = max s.1 (T 2); omega
    · show s.1 = max s.1 (T 2); omega
  | succ k ih =>
    intro D T s hs
    rw [planR_s, bestV_s]
    exact planJ_v ih D T s hs _
/-- what is tried below a depth stays; what is planned anew begins as what is tried -/
def Keeps (D : Nat) (s r : PS) : Prop := (∀ i, i < D → r.2.1 i = s.2.1 i) ∧ ((r.1 = s.1 ∧ r.2.2 = s.2.2) ∨ (s.1 < r.1 ∧ ∀ i, i < D → i < 5 → r.2.2 i = s.2.1 i))
theorem planR_keep : ∀ (k D : Nat) (T : Nat → Int) (s : PS), Keeps D s (planR k D T s) := by
  intro k
  induction k with
  | zero =>
    intro D T s
    unfold planR
    split
    · next h => exact ⟨fun i _ => rfl, Or.inr ⟨h, fun i _ h5 => if_pos h5⟩⟩
    · exact ⟨fun i _ => rfl, Or.inl ⟨rfl, rfl⟩⟩
  | succ k ih =>
    intro D T s
    unfold planR
    generalize (if noonF T (T 1) = true ∨ k = 0 then 1 else 5 : Nat) = cnt
    induction cnt with
    | zero => exact ⟨fun i _ => rfl, Or.inl ⟨rfl, rfl⟩⟩
    | succ j ihj =>
      unfold planJ
      generalize planJ (planR k (D + 1)) T D j s = q at ihj ⊢
      obtain ⟨a1, a2⟩ := ihj
      split
      · obtain ⟨b1, b2⟩ := ih (D + 1) (goF (jobsF T (j : Int) (sizeF T)) false) (q.1, up q.2.1 D (j : Int), q.2.2)
        generalize planR k (D + 1) (goF (jobsF T (j : Int) (sizeF T)) false) (q.1, up q.2.1 D (j : Int), q.2.2) = w at b1 b2 ⊢
        have e1 : ∀ i, i < D → w.2.1 i = s.2.1 i := fun i hi => by
          rw [b1 i (by omega)]
          show up q.2.1 D (j : Int) i = _
          rw [up_n _ _ (by omega)]; exact a1 i hi
        refine ⟨e1, ?_⟩
        rcases b2 with ⟨b3, b4⟩ | ⟨b3, b4⟩
        · replace b3 : w.1 = q.1 := b3
          replace b4 : w.2.2 = q.2.2 := b4
          rw [b3, b4]; exact a2
        · replace b3 : q.1 < w.1 := b3
          refine Or.inr ⟨?_, fun i hi h5 => ?_⟩
          · rcases a2 with ⟨a3, -⟩ | ⟨a3, -⟩ <;> omega
          · rw [b4 i (by omega) h5]
            show up q.2.1 D (j : Int) i = _
            rw [up_n _ _ (by omega)]; exact a1 i hi
      · refine ⟨fun i hi => ?_, a2⟩
        show up q.2.1 D (j : Int) i = _
        rw [up_n _ _ (by omega)]; exact a1 i hi
theorem plan_first {k : Nat} {T : Nat → Int} {s : PS} (hs : s.1 = -1) : ∀ cnt : Nat, (planJ (planR k 1) T 0 cnt s).1 = -1 ∨ ∃ j : Nat, j < cnt ∧ (planJ (planR k 1) T 0 cnt s).2.2 0 = (j : Int) ∧ wantF (jobsF T j (sizeF T)) false = 0 ∧ bestV k (goF (jobsF T j (sizeF T)) false) = (planJ (planR k 1) T 0 cnt s).1 := by
  intro cnt
  induction cnt with
  | zero => exact Or.inl hs
  | succ j ih =>
    have hq1 := planJ_v (planR_v k) 0 T s (by omega) j
    unfold planJ
    generalize planJ (planR k (0 + 1)) T 0 j s = q at ih hq1 ⊢
    split
    · next hw =>
      have hv := planR_v k (0 + 1) (goF (jobsF T (j : Int) (sizeF T)) false) (q.1, up q.2.1 0 (j : Int), q.2.2) (by show -1 ≤ q.1; omega)
      replace hv : (planR k (0 + 1) (goF (jobsF T (j : Int) (sizeF T)) false) (q.1, up q.2.1 0 (j : Int), q.2.2)).1 = max q.1 (bestV k (goF (jobsF T (j : Int) (sizeF T)) false)) := hv
      obtain ⟨-, k2⟩ := planR_keep k (0 + 1) (goF (jobsF T (j : Int) (sizeF T)) false) (q.1, up q.2.1 0 (j : Int), q.2.2)
      generalize planR k (0 + 1) (goF (jobsF T (j : Int) (sizeF T)) false) (q.1, up q.2.1 0 (j : Int), q.2.2) = w at hv k2 ⊢
      rcases k2 with ⟨k3, k4⟩ | ⟨k3, k4⟩
      · replace k3 : w.1 = q.1 := k3
        replace k4 : w.2.2 = q.2.2 := k4
        rw [k3, k4]
        rcases ih with ih | ⟨i, i1, i2⟩
        · exact Or.inl ih
        · exact Or.inr ⟨i, by omega, i2⟩
      · replace k3 : q.1 < w.1 := k3
        refine Or.inr ⟨j, by omega, ?_, hw, by omega⟩
        rw [k4 0 (by omega) (by omega)]
        show up q.2.1 0 (j : Int) 0 = _
        rw [up_s]
    · rcases ih with ih | ⟨i, i1, i2⟩
      · exact Or.inl ih
      · exact Or.inr ⟨i, by omega, i2⟩
/-- the first JOB of the PLAN: no want in that year, and the rest of the years reach the same -/
theorem plan_job {k : Nat} {T : Nat → Int} {a b : Nat → Int} (h : (planT T (k + 1) a b).1 ≠ -1) : ∃ j : Nat, j < 5 ∧ (planT T (k + 1) a b).2.2 0 = (j : Int) ∧ wantF (jobsF T j (sizeF T)) false = 0 ∧ bestV k (goF (jobsF T j (sizeF T)) false) = (planT T (k + 1) a b).1 := by
  have h1 := plan_first (k := k) (T := T) (s := (-1, a, b)) rfl (cntJ k T)
  have h5 : cntJ k T ≤ 5 := by unfold cntJ; split <;> omega
  have e : planT T (k + 1) a b = planJ (planR k 1) T 0 (cntJ k T) (-1, a, b) := rfl
  rw [e] at h ⊢
  rcases h1 with h1 | ⟨j, j1, j2⟩
  · exact absurd h1 h
  · exact ⟨j, by omega, j2⟩
theorem plan_val {T : Nat → Int} {Y : Int} (hF : FI T Y) (k : Nat) (a b : Nat → Int) : (planT T k a b).1 = bestV k T := by
  have h1 := planR_v k 0 T (-1, a, b) (Int.le_refl _)
  have h2 := bestV_lo hF k
  have e : planT T k a b = planR k 0 T (-1, a, b) := rfl
  rw [e, h1]
  show max (-1) (bestV k T) = _
  omega
theorem jobs_at (F : Nat → Int) (j : Int) : ∀ (n k : Nat), jobsF F j n k = if 10 ≤ k ∧ k % 4 = 2 ∧ k < 10 + 4 * n then j else F k := by
  intro n
  induction n with
  | zero => intro k; show F k = _; rw [if_neg (by omega)]
  | succ n ih =>
    intro k
    show up (jobsF F j n) (10 + 4 * n) j k = _
    rw [up_app, ih]
    by_cases h : k = 10 + 4 * n
    · rw [if_pos h, if_pos (by omega)]
    · rw [if_neg h]
      by_cases h2 : 10 ≤ k ∧ k % 4 = 2 ∧ k < 10 + 4 * n
      · rw [if_pos h2, if_pos (by omega)]
      · rw [if_neg h2, if_neg (by omega)]
theorem jobs_sz (F : Nat → Int) (j : Int) (n : Nat) : sizeF (jobsF F j n) = sizeF F := sz_same (fx_jobs F j (by omega) n)
theorem jobs_jobs (F : Nat → Int) (i j : Int) (n : Nat) : jobsF (jobsF F i n) j n = jobsF F j n := by
  funext k
  rw [jobs_at, jobs_at, jobs_at]
  split <;> rfl
theorem best_jobs (k : Nat) (T : Nat → Int) (i : Int) : bestV k (jobsF T i (sizeF T)) = bestV k T := by
  cases k with
  | zero => show jobsF T i (sizeF T) 2 = T 2; rw [fx_jobs T i (by omega)]
  | succ k =>
    rw [bestV_s, bestV_s]
    have e1 : vJ k (jobsF T i (sizeF T)) = vJ k T := by
      funext j
      unfold vJ
      rw [jobs_sz, jobs_jobs]
    have e2 : cntJ k (jobsF T i (sizeF T)) = cntJ k T := by
      unfold cntJ noonF
      rw [fx_jobs T i (k := 0) (by omega), fx_jobs T i (k := 1) (by omega)]
    rw [e1, e2]
theorem go_6 (F : Nat → Int) (b : Bool) : goF F b 6 = F 6 := fx_go F b (by unfold fixd; omega) (by omega)
theorem bestV_hi : ∀ {k : Nat} {T : Nat → Int} {Y : Int}, FI T Y → bestV k T ≤ 9999 := by
  intro k
  induction k with
  | zero => intro T Y h; have := h.2.2.1.2; show T 2 ≤ 9999; omega
  | succ k ih =>
    intro T Y h
    rw [bestV_s]
    have hj : ∀ cnt : Nat, cnt ≤ 5 → bestJ (vJ k T) cnt ≤ 9999 := by
      intro cnt
      induction cnt with
      | zero => intro _; show (-1 : Int) ≤ 9999; omega
      | succ j ihj =>
        intro hj5
        have h1 := ihj (by omega)
        show max (bestJ (vJ k T) j) (vJ k T j) ≤ 9999
        have h2 : vJ k T j ≤ 9999 := by
          unfold vJ
          split
          · exact ih (FI_go (FI_jobs h (by omega) _) false)
          · omega
        omega
    exact hj _ (by unfold cntJ; split <;> omega)

