/-! more calls: those that only look, and the plain rest -/
theorem RR_same {e e' : Int} {S : YS} {T : RS} {Y : Int} (h : YR S T Y) (he : e = e') : RR (e, S) (e', T) Y := ⟨he, h⟩
theorem run_tr {F : Nat → Int} (hs : sizeF F ≤ 6) (k : Nat) (b : Bool) : wantF (runF (trF F) k) b = wantF (runF F k) b := by
  rw [← trF_run hs, trF_want (by rw [sz_run]; exact hs)]
theorem first_tr {F : Nat → Int} (hs : sizeF F ≤ 6) (n : Nat) : firstF (trF F) n = firstF F n := by
  unfold firstF
  congr 1
  funext k
  unfold wants
  rw [run_tr hs]
theorem held_tr {F : Nat → Int} (hs : sizeF F ≤ 6) (n : Nat) : heldF (trF F) n = heldF F n := by
  unfold heldF
  congr 1
  funext g
  unfold enough
  rw [← trF_up F _ (by decide), first_tr]
  show (up F 2 (g : Int) 6).toNat ≤ 6
  rw [up_n _ _ (by decide)]; exact hs
theorem keep_tr {F : Nat → Int} (hs : sizeF F ≤ 6) (n s : Nat) : keepF (trF F) n s = keepF F n s := by
  unfold keepF
  rw [trF_sz, ← trF_tof hs, ← trF_run (by show ((teachOf F s (sizeF F)) 6).toNat ≤ 6; rw [fx_tof F s (by omega)]; exact hs)]
  have e : sizeF (runF (teachOf F s (sizeF F)) n) = sizeF F := by rw [sz_run]; show ((teachOf F s (sizeF F)) 6).toNat = _; rw [fx_tof F s (by omega)]; rfl
  unfold trF
  rw [e]
  exact tr_know hs _ _ (Nat.le_refl _)
theorem few_tr {F : Nat → Int} (hs : sizeF F ≤ 6) (n : Nat) : ∀ s, fewT (trF F) n s = fewT F n s := by
  intro s
  induction s with
  | zero => rfl
  | succ s ih => unfold fewT; rw [ih, keep_tr hs]
theorem sums_eq {X B : Nat → Int} {a : Nat} : ∀ (n : Nat) (h : Int), (∀ i, i < n → X (a + i) = B (a + i)) → sumsF X h a n = sumsF B h a n := by
  intro n
  induction n with
  | zero => intro h _; rfl
  | succ n ih => intro h e; rw [sums_st, sums_st, ih h (fun i hi => e i (by omega)), e n (by omega)]
theorem mix_sums (F : Nat → Int) (h : Int) : ∀ n, mixF F h n = sumsF F h 7 (4 * n) := by
  intro n
  induction n with
  | zero => rfl
  | succ n ih =>
    rw [show 4 * (n + 1) = 4 * n + 1 + 1 + 1 + 1 by omega, sums_st, sums_st, sums_st, sums_st, ← ih]
    show 31 * (31 * (31 * (31 * mixF F h n + F (7 + 4 * n)) + F (8 + 4 * n)) + F (9 + 4 * n)) + F (10 + 4 * n) = _
    rw [show 7 + (4 * n + 1) = 8 + 4 * n by omega, show 7 + (4 * n + 1 + 1) = 9 + 4 * n by omega, show 7 + (4 * n + 1 + 1 + 1) = 10 + 4 * n by omega]
theorem ap_eq {X B : Nat → Int} {v : Nat} {R R' : Nat → Int} : ∀ m, (∀ i, i < m → X (91 + (6 * v + i)) = B (91 + (6 * v + i)) ∧ R i = R' i) → apR X v R m = apR B v R' m := by
  intro m
  induction m with
  | zero => intro _; rfl
  | succ m ih => intro e; unfold apR; rw [ih (fun i hi => e i (by omega)), (e m (by omega)).1, (e m (by omega)).2]
theorem ap_BE {X B : Nat → Int} (h : BE X B) {v w : Nat} (hv : v < (B 90).toNat) (hw : w < (B 90).toNat) : apR X v (rowB X w) 6 = apR B v (rowB B w) 6 := ap_eq 6 (fun i hi => ⟨h.2.2.2.2.2.2 _ (by omega), h.2.2.2.2.2.2 _ (by omega)⟩)
theorem brI_eq {X B : Nat → Int} (h : BE X B) {v : Nat} (hv : v < (B 90).toNat) (acc : Int) : ∀ k, v + k < (B 90).toNat → brI X v acc k = brI B v acc k := by
  intro k
  induction k with
  | zero => intro _; rfl
  | succ k ih => intro hk; unfold brI; rw [ih (by omega), ap_BE h hv (by omega)]
theorem brO_eq {X B : Nat → Int} (h : BE X B) : ∀ v, v ≤ (B 90).toNat → brO X (B 90).toNat v = brO B (B 90).toNat v := by
  intro v
  induction v with
  | zero => intro _; rfl
  | succ v ih => intro hv; unfold brO; rw [ih (by omega), brI_eq h (by omega) _ _ (by omega)]
theorem nw_eq {X B : Nat → Int} (h : BE X B) (R : Nat → Int) : ∀ n, n ≤ (B 90).toNat → nwF X R n = nwF B R n := by
  intro n
  induction n with
  | zero => intro _; rfl
  | succ n ih => intro hn; unfold nwF; rw [ih (by omega), ap_eq (R := R) (R' := R) 6 (fun i hi => ⟨h.2.2.2.2.2.2 _ (by omega), rfl⟩)]
theorem bad_eq {X B : Nat → Int} (h : BE X B) (s : Nat) {r q : Nat} (hr : r < (B 59).toNat) (hq : q < (B 59).toNat) : badB X s r q = badB B s r q := by
  have e := h.2.2.2.2.2.1
  unfold badB toldB diffB
  rw [show 61 + 3 * r = 60 + (3 * r + 1) by omega, show 61 + 3 * q = 60 + (3 * q + 1) by omega, show 62 + 3 * r = 60 + (3 * r + 2) by omega, show 62 + 3 * q = 60 + (3 * q + 2) by omega, e (3 * r) (by omega), e (3 * q) (by omega), e (3 * r + 1) (by omega), e (3 * q + 1) (by omega), e (3 * r + 2) (by omega), e (3 * q + 2) (by omega)]
theorem alike_eq {X B : Nat → Int} (h : BE X B) (s : Nat) : alikeB X s (B 59).toNat = alikeB B s (B 59).toNat := by
  unfold alikeB
  rw [decide_eq_decide]
  exact ⟨fun g r hr q hq => by rw [← bad_eq h s hr (by omega)]; exact g r hr q hq, fun g r hr q hq => by rw [bad_eq h s hr (by omega)]; exact g r hr q hq⟩
theorem pop_lt : ∀ z : Fin 7, ∀ s : Fin 64, s.val + 1 < 2 ^ z.val → pop s.val < pop (2 ^ z.val - 1) := by decide +kernel
theorem tb_all : ∀ z : Fin 7, ∀ f : Fin 6, f.val < z.val → (2 ^ z.val - 1).testBit f.val = true := by decide +kernel
theorem alike_all {B : Nat → Int} {F : Nat → Int} (h : DE F B) (hB : BI B) (hs : sizeF F ≤ 6) (hsz : (sizeF F : Int) = F 6) : alikeB B (2 ^ sizeF F - 1) (B 59).toNat = true := by
  unfold alikeB
  rw [decide_eq_true_eq]
  intro r hr q hq
  have h1 := h.2 r hr
  have h59 := hB.2.2.1
  have h2 := (hB.2.2.2.2.2.1 r (by omega)).2.1
  have h3 := tb_all ⟨sizeF F, by omega⟩ ⟨(B (61 + 3 * r)).toNat, by omega⟩ (by show (B (61 + 3 * r)).toNat < sizeF F; omega)
  unfold badB toldB
  have h4 : Nat.testBit (2 ^ sizeF F - 1) (B (61 + 3 * r)).toNat = true := h3
  rw [h4]
  rfl
theorem few_rel {X B : Nat → Int} (n : Nat) {z : Nat} (hz : z ≤ 6) (ha : ∀ s, alikeB X s n = alikeB B s n) (hall : alikeB B (2 ^ z - 1) n = true) : fewM X n (2 ^ z) = (fewL B n (2 ^ z - 1) (2 ^ z) : Int) := by
  have hz64 : 2 ^ z ≤ 64 := Nat.pow_le_pow_right (by decide : 2 > 0) hz
  have hz1 : 1 ≤ 2 ^ z := Nat.one_le_two_pow
  have key : ∀ s, s ≤ 2 ^ z - 1 → (fewM X n s = -1 ∧ fewL B n (2 ^ z - 1) s = 2 ^ z - 1) ∨ (fewM X n s = (fewL B n (2 ^ z - 1) s : Int) ∧ fewL B n (2 ^ z - 1) s < s) := by
    intro s
    induction s with
    | zero => intro _; exact Or.inl ⟨rfl, rfl⟩
    | succ s ih =>
      intro hs
      have hp : pop s < pop (2 ^ z - 1) := pop_lt ⟨z, by omega⟩ ⟨s, by omega⟩ (by show s + 1 < 2 ^ z; omega)
      unfold fewM fewL
      rw [ha s]
      rcases ih (by omega) with ⟨h1, h2⟩ | ⟨h1, h2⟩
      · rw [h1, h2]
        by_cases hc : alikeB B s n = true
        · rw [if_pos ⟨hc, Or.inl rfl⟩, if_pos ⟨hc, hp⟩]
          exact Or.inr ⟨rfl, by omega⟩
        · rw [if_neg (fun g => hc g.1), if_neg (fun g => hc g.1)]
          exact Or.inl ⟨rfl, rfl⟩
      · rw [h1, Int.toNat_natCast]
        by_cases hc : alikeB B s n = true ∧ pop s < pop (fewL B n (2 ^ z - 1) s)
        · rw [if_pos ⟨hc.1, Or.inr hc.2⟩, if_pos hc]
          exact Or.inr ⟨rfl, by omega⟩
        · rw [if_neg (fun g => hc ⟨g.1, g.2.elim (fun g2 => absurd g2 (by omega)) id⟩), if_neg hc]
          exact Or.inr ⟨rfl, by omega⟩
  have hk := key (2 ^ z - 1) (Nat.le_refl _)
  have e : 2 ^ z = 2 ^ z - 1 + 1 := by omega
  have eM : fewM X n (2 ^ z) = (if alikeB X (2 ^ z - 1) n = true ∧ (fewM X n (2 ^ z - 1) = -1 ∨ pop (2 ^ z - 1) < pop (fewM X n (2 ^ z - 1)).toNat) then ((2 ^ z - 1 : Nat) : Int) else fewM X n (2 ^ z - 1)) := by
    conv => lhs; rw [e]
    rfl
  have eL : fewL B n (2 ^ z - 1) (2 ^ z) = (if alikeB B (2 ^ z - 1) n = true ∧ pop (2 ^ z - 1) < pop (fewL B n (2 ^ z - 1) (2 ^ z - 1)) then 2 ^ z - 1 else fewL B n (2 ^ z - 1) (2 ^ z - 1)) := by
    generalize hq : fewL B n (2 ^ z - 1) (2 ^ z) = q
    rw [show fewL B n (2 ^ z - 1) (2 ^ z) = fewL B n (2 ^ z - 1) (2 ^ z - 1 + 1) by rw [← e]] at hq
    exact hq.symm
  rw [eM, eL, ha]
  generalize fewM X n (2 ^ z - 1) = M at hk
  generalize fewL B n (2 ^ z - 1) (2 ^ z - 1) = Lv at hk
  rcases hk with ⟨h1, h2⟩ | ⟨h1, h2⟩
  · rw [h1, h2, if_pos ⟨hall, Or.inl rfl⟩, if_neg (fun g => by have := g.2; omega)]
  · have hp : pop Lv < pop (2 ^ z - 1) := pop_lt ⟨z, by omega⟩ ⟨Lv, by omega⟩ (by show Lv + 1 < 2 ^ z; omega)
    rw [h1, Int.toNat_natCast, if_neg (fun g => by rcases g.2 with g2 | g2 <;> omega), if_neg (fun g => by have := g.2; omega)]
theorem sure_eq {X B : Nat → Int} {n : Nat} (ha : ∀ s, alikeB X s n = alikeB B s n) (all : Nat) : ∀ s, sureL X n all s = sureL B n all s := by
  intro s
  induction s with
  | zero => rfl
  | succ s ih => unfold sureL; rw [ih, ha]

