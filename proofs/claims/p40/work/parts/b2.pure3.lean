/-! the fewest payments: from half of those not clear to one less than all -/
theorem xo_tab : ∀ s : Fin 64, ∀ f g : Fin 6, s.val.testBit f.val = true → ((s.val ^^^ 2 ^ f.val).testBit g.val = (s.val.testBit g.val && !(g.val == f.val))) ∧ (s.val ^^^ 2 ^ f.val) < s.val := by decide +kernel
theorem hb_tab : ∀ n : Fin 7, ∀ s : Fin 64, s.val < 2 ^ n.val → 1 ≤ s.val → ∃ f : Fin 6, f.val < n.val ∧ s.val.testBit f.val = true := by decide +kernel
theorem lb_tab : ∀ n : Fin 7, ∀ s : Fin 64, ∀ f : Fin 6, s.val < 2 ^ n.val → s.val.testBit f.val = true → f.val < n.val := by decide +kernel
theorem sumS_x (w : Nat → Int) {s f : Nat} (hs : s < 64) (hf : f < 6) (h : s.testBit f = true) : sumS w (s ^^^ 2 ^ f) = sumS w s - w f := by
  have t0 : (s ^^^ 2 ^ f).testBit 0 = (s.testBit 0 && !(0 == f)) := (xo_tab ⟨s, hs⟩ ⟨f, hf⟩ ⟨0, by decide⟩ h).1
  have t1 : (s ^^^ 2 ^ f).testBit 1 = (s.testBit 1 && !(1 == f)) := (xo_tab ⟨s, hs⟩ ⟨f, hf⟩ ⟨1, by decide⟩ h).1
  have t2 : (s ^^^ 2 ^ f).testBit 2 = (s.testBit 2 && !(2 == f)) := (xo_tab ⟨s, hs⟩ ⟨f, hf⟩ ⟨2, by decide⟩ h).1
  have t3 : (s ^^^ 2 ^ f).testBit 3 = (s.testBit 3 && !(3 == f)) := (xo_tab ⟨s, hs⟩ ⟨f, hf⟩ ⟨3, by decide⟩ h).1
  have t4 : (s ^^^ 2 ^ f).testBit 4 = (s.testBit 4 && !(4 == f)) := (xo_tab ⟨s, hs⟩ ⟨f, hf⟩ ⟨4, by decide⟩ h).1
  have t5 : (s ^^^ 2 ^ f).testBit 5 = (s.testBit 5 && !(5 == f)) := (xo_tab ⟨s, hs⟩ ⟨f, hf⟩ ⟨5, by decide⟩ h).1
  unfold sumS
  rw [t0, t1, t2, t3, t4, t5]
  clear t0 t1 t2 t3 t4 t5
  rcases (show f = 0 ∨ f = 1 ∨ f = 2 ∨ f = 3 ∨ f = 4 ∨ f = 5 by omega) with rfl | rfl | rfl | rfl | rfl | rfl <;> (simp only [h, eq_self, Nat.reduceBEq, Bool.not_false, Bool.not_true, Bool.and_true, Bool.and_false, if_true, Bool.false_eq_true, if_false]; omega)
theorem sumS_0 (w : Nat → Int) : sumS w 0 = 0 := by
  unfold sumS
  simp only [Nat.zero_testBit, Bool.false_eq_true, if_false]
  rfl
theorem mgb_le {tb : Nat → Int} {s : Nat} {B : Int} (h0 : 0 ≤ B) : ∀ f, (∀ g, g < f → s.testBit g = true → tb (s ^^^ 2 ^ g) ≤ B) → mgb tb s f ≤ B := by
  intro f
  induction f with
  | zero => intro _; exact h0
  | succ f ih =>
    intro h
    have h1 := ih (fun g hg => h g (by omega))
    unfold mgb
    split
    · next hb => have := h f (by omega) hb; omega
    · exact h1
theorem mgb_ge {tb : Nat → Int} {s g : Nat} (hb : s.testBit g = true) : ∀ f, g < f → tb (s ^^^ 2 ^ g) ≤ mgb tb s f := by
  intro f
  induction f with
  | zero => intro h; omega
  | succ f ih =>
    intro h
    unfold mgb
    by_cases hg : g = f
    · subst hg; rw [if_pos hb]; omega
    · have := ih (by omega)
      split <;> omega
theorem tab_st (net : Nat → Int) (n : Nat) {j : Nat} : ∀ s, j ≤ s → tab net n s j = tab net n j j := by
  intro s
  induction s with
  | zero => intro h; obtain rfl : j = 0 := by omega
            rfl
  | succ s ih =>
    intro h
    by_cases hj : j = s + 1
    · rw [hj]
    · show up (tab net n s) (s + 1) _ j = _
      rw [up_n _ _ hj]; exact ih (by omega)
def grp (net : Nat → Int) (n s : Nat) : Int := tab net n s s
theorem grp_0 (net : Nat → Int) (n : Nat) : grp net n 0 = 0 := rfl
theorem grp_s (net : Nat → Int) (n s : Nat) : grp net n (s + 1) = mgb (tab net n s) (s + 1) n + (if sumS net (s + 1) = 0 then 1 else 0) := by
  show up (tab net n s) (s + 1) _ (s + 1) = _
  rw [up_s]
def wz (net : Nat → Int) (f : Nat) : Int := if net f = 0 then 2 else 1
def zz (net : Nat → Int) (f : Nat) : Int := if net f = 0 then 1 else 0
theorem grp_nn (net : Nat → Int) {n s : Nat} (hn : n ≤ 6) (hs : s < 64) : 0 ≤ grp net n s := (tab_in net hn s hs s).1
theorem grp_hi (net : Nat → Int) {n : Nat} (hn : n ≤ 6) : ∀ s : Nat, s < 2 ^ n → 2 * grp net n s ≤ sumS (wz net) s - (if sumS net s = 0 then 0 else 1) := by
  have h64 : 2 ^ n ≤ 64 := Nat.pow_le_pow_right (by decide) hn
  intro s
  induction s using Nat.strongRecOn with
  | _ s ih =>
    intro hs
    match s, hs, ih with
    | 0, _, _ => rw [grp_0, sumS_0, sumS_0, if_pos rfl]; omega
    | s + 1, hs, ih =>
      have key : ∀ f, f < n → (s + 1).testBit f = true → 2 * tab net n s ((s + 1) ^^^ 2 ^ f) ≤ sumS (wz net) (s + 1) - (if sumS net (s + 1) = 0 then 2 else 1) := by
        intro f hf hb
        have hlt : ((s + 1) ^^^ 2 ^ f) < s + 1 := (xo_tab ⟨s + 1, by omega⟩ ⟨f, by omega⟩ ⟨0, by decide⟩ hb).2
        have h1 := ih ((s + 1) ^^^ 2 ^ f) hlt (by omega)
        rw [sumS_x (wz net) (by omega) (by omega) hb, sumS_x net (by omega) (by omega) hb] at h1
        rw [tab_st net n s (by omega)]
        unfold grp at h1
        unfold wz at h1 ⊢
        by_cases hz : net f = 0
        · rw [if_pos hz] at h1
          rw [hz] at h1
          by_cases h0 : sumS net (s + 1) = 0
          · rw [h0, if_pos (by omega)] at h1
            rw [if_pos h0]; omega
          · rw [if_neg (by omega)] at h1
            rw [if_neg h0]; omega
        · rw [if_neg hz] at h1
          by_cases h0 : sumS net (s + 1) = 0
          · rw [h0, if_neg (by omega)] at h1
            rw [if_pos h0]; omega
          · rw [if_neg h0]
            split at h1 <;> omega
      obtain ⟨f, hf1, hf2⟩ := hb_tab ⟨n, by omega⟩ ⟨s + 1, by omega⟩ hs (by show 1 ≤ s + 1; omega)
      have hk := key f.val hf1 hf2
      have hlt : ((s + 1) ^^^ 2 ^ f.val) < s + 1 := (xo_tab ⟨s + 1, by omega⟩ f ⟨0, by decide⟩ hf2).2
      have h0 := (tab_in net hn s (by omega) ((s + 1) ^^^ 2 ^ f.val)).1
      rw [grp_s]
      by_cases hz : sumS net (s + 1) = 0
      · rw [if_pos hz, if_pos hz]
        rw [if_pos hz] at hk
        have hm := mgb_le (tb := tab net n s) (s := s + 1) (B := (sumS (wz net) (s + 1) - 2) / 2) (by omega) n (fun g hg hb => by
          have := key g hg hb
          rw [if_pos hz] at this
          omega)
        omega
      · rw [if_neg hz, if_neg hz]
        rw [if_neg hz] at hk
        have hm := mgb_le (tb := tab net n s) (s := s + 1) (B := (sumS (wz net) (s + 1) - 1) / 2) (by omega) n (fun g hg hb => by
          have := key g hg hb
          rw [if_neg hz] at this
          omega)
        omega
theorem grp_lo (net : Nat → Int) {n : Nat} (hn : n ≤ 6) : ∀ s : Nat, s < 2 ^ n → sumS (zz net) s ≤ grp net n s ∧ (sumS net s = 0 → (∃ f, f < 6 ∧ s.testBit f = true ∧ net f ≠ 0) → sumS (zz net) s + 1 ≤ grp net n s) := by
  have h64 : 2 ^ n ≤ 64 := Nat.pow_le_pow_right (by decide) hn
  intro s
  induction s using Nat.strongRecOn with
  | _ s ih =>
    intro hs
    match s, hs, ih with
    | 0, _, _ =>
      refine ⟨by rw [grp_0, sumS_0]; omega, fun _ h => ?_⟩
      obtain ⟨f, -, h2, -⟩ := h
      rw [Nat.zero_testBit] at h2; exact absurd h2 (by decide)
    | s + 1, hs, ih =>
      have key : ∀ f, f < 6 → (s + 1).testBit f = true → sumS (zz net) (s + 1) - zz net f + (if sumS net (s + 1) = 0 then 1 else 0) ≤ grp net n (s + 1) := by
        intro f hf hb
        have hfn : f < n := lb_tab ⟨n, by omega⟩ ⟨s + 1, by omega⟩ ⟨f, hf⟩ hs hb
        have hlt : ((s + 1) ^^^ 2 ^ f) < s + 1 := (xo_tab ⟨s + 1, by omega⟩ ⟨f, by omega⟩ ⟨0, by decide⟩ hb).2
        have h1 := (ih ((s + 1) ^^^ 2 ^ f) hlt (by omega)).1
        rw [sumS_x (zz net) (by omega) (by omega) hb] at h1
        have h2 := mgb_ge (tb := tab net n s) hb n hfn
        rw [tab_st net n s (by omega)] at h2
        rw [grp_s]
        unfold grp at h1
        omega
      by_cases hx : ∃ f, f < 6 ∧ (s + 1).testBit f = true ∧ net f ≠ 0
      · obtain ⟨f, h1, h2, h3⟩ := hx
        have hk := key f h1 h2
        have ez : zz net f = 0 := if_neg h3
        rw [ez] at hk
        refine ⟨?_, fun h0 _ => ?_⟩
        · split at hk <;> omega
        · rw [if_pos h0] at hk; omega
      · have hall : ∀ f, f < 6 → (s + 1).testBit f = true → net f = 0 := fun f h1 h2 => by
          by_cases h3 : net f = 0
          · exact h3
          · exact absurd ⟨f, h1, h2, h3⟩ hx
        have h0 : sumS net (s + 1) = 0 := by
          have hh : ∀ f, f < 6 → (if (s + 1).testBit f then net f else 0) = 0 := fun f hf => by
            by_cases hb : (s + 1).testBit f = true
            · rw [if_pos hb]; exact hall f hf hb
            · rw [if_neg hb]
          unfold sumS
          rw [hh 0 (by decide), hh 1 (by decide), hh 2 (by decide), hh 3 (by decide), hh 4 (by decide), hh 5 (by decide)]
          rfl
        obtain ⟨f, hf1, hf2⟩ := hb_tab ⟨n, by omega⟩ ⟨s + 1, by omega⟩ hs (by show 1 ≤ s + 1; omega)
        have hk := key f.val f.isLt hf2
        have ez : zz net f.val = 1 := if_pos (hall f.val f.isLt hf2)
        rw [ez, if_pos h0] at hk
        refine ⟨by omega, fun _ h => absurd h hx⟩
/-- sums over the families, one after another -/
def sumN (w : Nat → Int) : Nat → Int
  | 0 => 0
  | k + 1 => sumN w k + w k
def unl (net : Nat → Int) (f : Nat) : Int := if net f = 0 then 0 else 1
theorem full_sum (w : Nat → Int) {n : Nat} (hn : n ≤ 6) : sumS w (2 ^ n - 1) = sumN w n := by
  unfold sumS
  simp only [Nat.testBit_two_pow_sub_one]
  rcases (show n = 0 ∨ n = 1 ∨ n = 2 ∨ n = 3 ∨ n = 4 ∨ n = 5 ∨ n = 6 by omega) with rfl | rfl | rfl | rfl | rfl | rfl | rfl <;> (simp only [sumN, Nat.reduceLT, decide_true, decide_false, Bool.false_eq_true, eq_self, if_true, if_false]; try omega)
theorem unl_in (net : Nat → Int) : ∀ k : Nat, 0 ≤ sumN (unl net) k ∧ sumN (unl net) k ≤ (k : Int) := by
  intro k
  induction k with
  | zero => show (0 : Int) ≤ 0 ∧ (0 : Int) ≤ ((0 : Nat) : Int); omega
  | succ k ih =>
    show 0 ≤ sumN (unl net) k + unl net k ∧ sumN (unl net) k + unl net k ≤ _
    unfold unl at ih ⊢
    split <;> omega
theorem wz_sum (net : Nat → Int) : ∀ k : Nat, sumN (wz net) k = 2 * (k : Int) - sumN (unl net) k ∧ sumN (zz net) k = (k : Int) - sumN (unl net) k := by
  intro k
  induction k with
  | zero => exact ⟨rfl, rfl⟩
  | succ k ih =>
    show sumN (wz net) k + wz net k = 2 * ((k + 1 : Nat) : Int) - (sumN (unl net) k + unl net k) ∧ sumN (zz net) k + zz net k = ((k + 1 : Nat) : Int) - (sumN (unl net) k + unl net k)
    unfold wz zz unl at ih ⊢
    by_cases h : net k = 0
    · rw [if_pos h, if_pos h, if_pos h]; omega
    · rw [if_neg h, if_neg h, if_neg h]; omega
theorem unl_pos {net : Nat → Int} : ∀ {k : Nat}, 0 < sumN (unl net) k → ∃ f, f < k ∧ net f ≠ 0 := by
  intro k
  induction k with
  | zero => intro h; exact absurd h (by show ¬ (0 : Int) < 0; omega)
  | succ k ih =>
    intro h
    by_cases hk : net k = 0
    · replace h : 0 < sumN (unl net) k + unl net k := h
      rw [show unl net k = 0 from if_pos hk] at h
      obtain ⟨f, h1, h2⟩ := ih (by omega)
      exact ⟨f, by omega, h2⟩
    · exact ⟨k, by omega, hk⟩
theorem payL_in {F B : Nat → Int} (hn : sizeF F ≤ 6) (h0 : sumN (netF B (awayF F)) (sizeF F) = 0) : 0 ≤ payF F B ∧ payF F B ≤ 6 ∧ (sumN (unl (netF B (awayF F))) (sizeF F) + 1) / 2 ≤ payF F B ∧ (0 < sumN (unl (netF B (awayF F))) (sizeF F) → payF F B ≤ sumN (unl (netF B (awayF F))) (sizeF F) - 1) := by
  have hg : payF F B = (sizeF F : Int) - grp (netF B (awayF F)) (sizeF F) (2 ^ sizeF F - 1) := rfl
  rw [hg]
  generalize netF B (awayF F) = net at h0 ⊢
  generalize sizeF F = n at hn h0 ⊢
  have hp : 1 ≤ 2 ^ n := Nat.one_le_two_pow
  have h64 : 2 ^ n ≤ 64 := Nat.pow_le_pow_right (by decide) hn
  have a0 := grp_nn net hn (s := 2 ^ n - 1) (by omega)
  have a1 := grp_hi net hn (2 ^ n - 1) (by omega)
  have a2 := grp_lo net hn (2 ^ n - 1) (by omega)
  have e1 := wz_sum net n
  have e2 := unl_in net n
  rw [full_sum _ hn, full_sum _ hn, h0, if_pos rfl] at a1
  rw [full_sum _ hn, full_sum _ hn] at a2
  refine ⟨by omega, by omega, by omega, fun hu => ?_⟩
  obtain ⟨f, f1, f2⟩ := unl_pos hu
  have := a2.2 h0 ⟨f, by omega, by rw [Nat.testBit_two_pow_sub_one]; exact decide_eq_true f1, f2⟩
  omega
theorem sumN_add (v w : Nat → Int) : ∀ k, sumN (fun f => v f + w f) k = sumN v k + sumN w k := by
  intro k
  induction k with
  | zero => rfl
  | succ k ih =>
    show sumN (fun f => v f + w f) k + (v k + w k) = sumN v k + v k + (sumN w k + w k)
    rw [ih]; omega
theorem sumN_one (x : Int) {g : Int} (h0 : 0 ≤ g) : ∀ k : Nat, sumN (fun f => if g = (f : Int) then x else 0) k = if g < (k : Int) then x else 0 := by
  intro k
  induction k with
  | zero => rw [if_neg (by omega)]; rfl
  | succ k ih =>
    show sumN (fun f => if g = (f : Int) then x else 0) k + (if g = (k : Int) then x else 0) = _
    rw [ih]
    by_cases h1 : g = (k : Int)
    · rw [if_neg (by omega), if_pos h1, if_pos (by omega)]; omega
    · rw [if_neg h1]
      by_cases h2 : g < (k : Int)
      · rw [if_pos h2, if_pos (by omega)]; omega
      · rw [if_neg h2, if_neg (by omega)]; omega
/-- what all are owed is what all owe -/
theorem net_zero {B : Nat → Int} {w : Int} {n : Nat} : ∀ d : Nat, (∀ j, j < d → (0 ≤ B (34 + 3 * j) ∧ B (34 + 3 * j) < (n : Int)) ∧ 0 ≤ B (35 + 3 * j) ∧ B (35 + 3 * j) < (n : Int)) → sumN (fun f => balB B w (f : Int) d) n = 0 := by
  intro d
  induction d with
  | zero =>
    intro _
    have h : ∀ k, sumN (fun f => balB B w (f : Int) 0) k = 0 := by
      intro k
      induction k with
      | zero => rfl
      | succ k ih => show sumN (fun f => balB B w (f : Int) 0) k + 0 = 0; rw [ih]; rfl
    exact h n
  | succ d ih =>
    intro h
    obtain ⟨⟨a1, a2⟩, a3, a4⟩ := h d (by omega)
    have e : (fun f : Nat => balB B w (f : Int) (d + 1)) = fun f : Nat => balB B w (f : Int) d + ((if B (35 + 3 * d) = (f : Int) then dueB B w d else 0) + (if B (34 + 3 * d) = (f : Int) then -dueB B w d else 0)) := by
      funext f
      show balB B w (f : Int) d + (if B (35 + 3 * d) = (f : Int) then dueB B w d else 0) - (if B (34 + 3 * d) = (f : Int) then dueB B w d else 0) = _
      split <;> split <;> omega
    rw [e, sumN_add, sumN_add, ih (fun j hj => h j (by omega)), sumN_one _ a3, sumN_one _ a1, if_pos a4, if_pos a2]
    omega
/-! the lots: all are drawn -/
theorem und_tab : ∀ z : Fin 7, ∀ s : Fin 64, ∀ h : Fin 6, s.val < 2 ^ z.val → pop s.val + h.val < z.val → (undR s.val z.val 0 (h.val : Int)).toNat < z.val ∧ s.val.testBit (undR s.val z.val 0 (h.val : Int)).toNat = false := by decide +kernel
theorem pop_tab : ∀ s : Fin 64, ∀ u : Fin 6, s.val.testBit u.val = false → pop (s.val ||| 2 ^ u.val) = pop s.val + 1 := by decide +kernel
theorem all_tab : ∀ z : Fin 7, ∀ s : Fin 64, s.val < 2 ^ z.val → pop s.val = z.val → s.val = 2 ^ z.val - 1 := by decide +kernel
theorem lot_pop (x : Int) {z : Nat} (hz : z ≤ 6) : ∀ k : Nat, k ≤ z → lotF x z k < 2 ^ z ∧ pop (lotF x z k) = k := by
  have h64 : 2 ^ z ≤ 64 := Nat.pow_le_pow_right (by decide) hz
  have hp : 1 ≤ 2 ^ z := Nat.one_le_two_pow
  intro k
  induction k with
  | zero => intro _; exact ⟨by show 0 < 2 ^ z; omega, by show pop 0 = 0; decide⟩
  | succ k ih =>
    intro hk
    obtain ⟨i1, i2⟩ := ih (by omega)
    have m0 := Int.emod_nonneg (lcg x (k + 1) / 65536) (show (z : Int) - k ≠ 0 by omega)
    have m1 := Int.emod_lt_of_pos (lcg x (k + 1) / 65536) (show 0 < (z : Int) - k by omega)
    unfold lotF
    generalize (lcg x (k + 1) / 65536) % ((z : Int) - k) = h at m0 m1 ⊢
    generalize lotF x z k = s at i1 i2 ⊢
    obtain ⟨h', rfl⟩ : ∃ h' : Nat, h = (h' : Int) := ⟨h.toNat, by omega⟩
    have hu := und_tab ⟨z, by omega⟩ ⟨s, by omega⟩ ⟨h', by omega⟩ i1 (by show pop s + h' < z; omega)
    replace hu : (undR s z 0 (h' : Int)).toNat < z ∧ s.testBit (undR s z 0 (h' : Int)).toNat = false := hu
    generalize (undR s z 0 (h' : Int)).toNat = u at hu ⊢
    have hp2 := pop_tab ⟨s, by omega⟩ ⟨u, by omega⟩ hu.2
    replace hp2 : pop (s ||| 2 ^ u) = pop s + 1 := hp2
    exact ⟨Nat.or_lt_two_pow i1 (Nat.pow_lt_pow_right (by decide) hu.1), by rw [hp2, i2]⟩
theorem lot_all (x : Int) {z : Nat} (hz : z ≤ 6) : lotF x z z = 2 ^ z - 1 := by
  have h64 : 2 ^ z ≤ 64 := Nat.pow_le_pow_right (by decide) hz
  obtain ⟨h1, h2⟩ := lot_pop x hz z (Nat.le_refl z)
  exact all_tab ⟨z, by omega⟩ ⟨lotF x z z, by omega⟩ h1 h2
/-! years undone -/
def PaL (S : LSt) (T : Nat → Int) (l0 : Int) (k : Nat) : Prop := (0 ≤ l0 ∧ l0 < 6) ∧ S.2.2.1 = (l0 + k) % 6 ∧ S.2.2.2.1 = (k : Int) ∧ trF S.1 = runF T k ∧ ∀ i : Nat, i < k → trF (S.2.2.2.2 ((l0 + i + 1) % 6).toNat) = runF T i
theorem pa_go {S : LSt} {T : Nat → Int} {l0 : Int} {k : Nat} (h : PaL S T l0 k) (hk : k < 6) (hs : sizeF S.1 ≤ 6) : PaL (goL S) T l0 (k + 1) := by
  obtain ⟨h0, h1, h2, h3, h4⟩ := h
  refine ⟨h0, ?_, ?_, ?_, fun i hi => ?_⟩
  · show (S.2.2.1 + 1) % 6 = _
    rw [h1]; omega
  · show min 6 (S.2.2.2.1 + 1) = _
    rw [h2]; omega
  · show trF (goF S.1 false) = goF (runF T k) false
    rw [trF_go hs, h3]
  · show trF (if (((l0 + i + 1) % 6).toNat : Int) = (S.2.2.1 + 1) % 6 then setF (S.2.2.2.2 ((l0 + i + 1) % 6).toNat) S.1 else S.2.2.2.2 ((l0 + i + 1) % 6).toNat) = _
    by_cases hik : i = k
    · subst hik
      rw [if_pos (by rw [h1]; omega), trF_set, h3]
    · rw [if_neg (by rw [h1]; omega)]
      exact h4 i (by omega)
theorem tr_bak {F H : Nat → Int} (h6 : sizeF F = sizeF H) (hs : sizeF H ≤ 6) (hx : ∀ k, k = 0 ∨ k = 6 ∨ (7 ≤ k ∧ k < 7 + 4 * sizeF H ∧ (k % 4 = 2 ∨ k % 4 = 3)) → F k = H k) : trF (bakF F H) = trF H := by
  have e6 : bakF F H 6 = F 6 := by rw [bakF_app, if_neg (by omega)]
  have es : sizeF (bakF F H) = sizeF H := by rw [← h6]; unfold sizeF; rw [e6]
  funext k
  unfold trF
  rw [es]
  unfold tr
  split
  · rfl
  · next hd =>
    rw [bakF_app]
    split
    · rfl
    · next hn => exact hx k (by omega)
theorem run_fx (T : Nat → Int) {k : Nat} (hk : fixd k) (h1 : k ≠ 1) : ∀ n, runF T n k = T k := by
  intro n
  induction n with
  | zero => rfl
  | succ n ih =>
    show goF (runF T n) false k = _
    rw [fx_go _ _ hk h1, ih]
theorem pa_back {S : LSt} {T : Nat → Int} {l0 : Int} {k : Nat} (h : PaL S T l0 (k + 1)) (hk : k < 6) (hs : sizeF S.1 ≤ 6) : PaL (backL S) T l0 k := by
  obtain ⟨h0, h1, h2, h3, h4⟩ := h
  have el : S.2.2.1.toNat = ((l0 + k + 1) % 6).toNat := by rw [h1]; omega
  have hp := h4 k (by omega)
  rw [← el] at hp
  have hsz : sizeF S.1 = sizeF (S.2.2.2.2 S.2.2.1.toNat) := by
    rw [← trF_sz S.1, ← trF_sz (S.2.2.2.2 S.2.2.1.toNat), hp, h3, sz_run, sz_run]
  refine ⟨h0, ?_, ?_, ?_, fun i hi => h4 i (by omega)⟩
  · show (S.2.2.1 + 5) % 6 = _
    rw [h1]; omega
  · show S.2.2.2.1 - 1 = _
    rw [h2]; omega
  · show trF (bakF S.1 (S.2.2.2.2 S.2.2.1.toNat)) = runF T k
    rw [← hp]
    generalize S.2.2.2.2 S.2.2.1.toNat = H at hp hsz ⊢
    refine tr_bak hsz (by omega) (fun j hj => ?_)
    have a1 : trF S.1 j = S.1 j := tr_a _ (by rw [hsz]; omega)
    have a2 : trF H j = H j := tr_a _ (by omega)
    rw [← a1, ← a2, h3, hp]
    rw [run_fx T (by unfold fixd; omega) (by omega), run_fx T (by unfold fixd; omega) (by omega)]

