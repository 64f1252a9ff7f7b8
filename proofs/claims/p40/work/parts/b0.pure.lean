/-! the law's numbers out of the script -/
theorem b_low (v : Int) : 0 ≤ b_and v 2147483647 := by
  have hm : ((zI v &&& zI 2147483647).toBitVec).msb = false := by
    show ((zI v).toBitVec &&& (zI 2147483647).toBitVec).msb = false
    have h : (zI 2147483647).toBitVec.msb = false := by decide
    rw [BitVec.msb_and, h, Bool.and_false]
  show 0 ≤ ((zI v &&& zI 2147483647).toBitVec).toInt
  rw [BitVec.toInt_eq_toNat_of_msb hm]
  exact Int.natCast_nonneg _
def cellV (sx : Nat → Int) (Ln k : Nat) : Int := if k < Ln then sx k else 1327217884 * ((k : Int) + 193) + 3
def upV (v m : Int) : Int := b_and v 2147483647 % m
theorem upV_in (v : Int) {m : Int} (hm : 1 ≤ m) : 0 ≤ upV v m ∧ upV v m < m := ⟨Int.emod_nonneg _ (by omega), Int.emod_lt_of_pos _ (by omega)⟩
def yearsV (sx : Nat → Int) (Ln : Nat) : Int := 2 + upV (cellV sx Ln 0) (if upV (b_shr (cellV sx Ln 0) 20) 4 = 0 then 69 else 8)
theorem yearsV_in (sx : Nat → Int) (Ln : Nat) : 2 ≤ yearsV sx Ln ∧ yearsV sx Ln ≤ 70 := by
  unfold yearsV
  split
  · have := upV_in (cellV sx Ln 0) (m := 69) (by decide); omega
  · have := upV_in (cellV sx Ln 0) (m := 8) (by decide); omega
def storeV (sx : Nat → Int) (Ln k : Nat) : Int := upV (cellV sx Ln (1 + k)) (if k = 0 then (if upV (b_shr (cellV sx Ln 1) 24) 3 = 0 then 1000 else 150) else 40)
theorem storeV_in (sx : Nat → Int) (Ln k : Nat) : 0 ≤ storeV sx Ln k ∧ storeV sx Ln k ≤ 999 := by
  unfold storeV
  split
  · split
    · have := upV_in (cellV sx Ln (1 + k)) (m := 1000) (by decide); omega
    · have := upV_in (cellV sx Ln (1 + k)) (m := 150) (by decide); omega
  · have := upV_in (cellV sx Ln (1 + k)) (m := 40) (by decide); omega
def kindV (sx : Nat → Int) (Ln f : Nat) : Int := upV (cellV sx Ln (6 + f)) 5
theorem kindV_in (sx : Nat → Int) (Ln f : Nat) : 0 ≤ kindV sx Ln f ∧ kindV sx Ln f ≤ 4 := by
  have := upV_in (cellV sx Ln (6 + f)) (m := 5) (by decide); unfold kindV; omega
def mouthsV (sx : Nat → Int) (Ln f : Nat) : Int := 1 + upV (b_shr (cellV sx Ln (6 + f)) 4) (if upV (b_shr (cellV sx Ln (6 + f)) 20) 3 = 0 then 20 else 5)
theorem mouthsV_in (sx : Nat → Int) (Ln f : Nat) : 1 ≤ mouthsV sx Ln f ∧ mouthsV sx Ln f ≤ 20 := by
  unfold mouthsV
  split
  · have := upV_in (b_shr (cellV sx Ln (6 + f)) 4) (m := 20) (by decide); omega
  · have := upV_in (b_shr (cellV sx Ln (6 + f)) 4) (m := 5) (by decide); omega
def memoryV (sx : Nat → Int) (Ln f : Nat) : Int := upV (b_shr (cellV sx Ln (6 + f)) 9) 10
theorem memoryV_in (sx : Nat → Int) (Ln f : Nat) : 0 ≤ memoryV sx Ln f ∧ memoryV sx Ln f ≤ 9 := by
  have := upV_in (b_shr (cellV sx Ln (6 + f)) 9) (m := 10) (by decide); unfold memoryV; omega
def jobV (sx : Nat → Int) (Ln f : Nat) : Int := upV (b_shr (cellV sx Ln (6 + f)) 13) 5
theorem jobV_in (sx : Nat → Int) (Ln f : Nat) : 0 ≤ jobV sx Ln f ∧ jobV sx Ln f ≤ 4 := by
  have := upV_in (b_shr (cellV sx Ln (6 + f)) 13) (m := 5) (by decide); unfold jobV; omega
/-! what the law's calls leave, one by one -/
def AtS (G : WG) (C : CF) (R : LSt × LSt × (Nat → Int) × Int × Int × Int × Int × Int × Int × Int) (T : Nat → Int) (Y : Int) (I : MI) (P : MP) (L : ML) : Prop := YI G C I P Y ∧ (rdY G I L).2 = R ∧ trF (rdY G I L).1.1 = T
/-- the books' first number and how many years may be undone -/
def NoB (G : WG) (I : MI) (L : ML) : Prop := (rdY G I L).1.2.1 33 = 0 ∧ (rdY G I L).1.2.2.2.1 = 0
section CALLS
variable {G : WG} {C : CF} {R : LSt × LSt × (Nat → Int) × Int × Int × Int × Int × Int × Int × Int} {T : Nat → Int} {Y r : Int} {I I1 : MI} {P P1 : MP} {L L1 : ML}
theorem AtS.fi (h : AtS G C R T Y I P L) : FI T Y := by
  have h1 : FI (rdY G I L).1.1 Y := h.1.2.1.1.1
  rw [← h.2.2]; exact FI_trF h1
theorem AtS.sz (h : AtS G C R T Y I P L) : sizeF (rdY G I L).1.1 = sizeF T ∧ sizeF T ≤ 6 ∧ (sizeF T : Int) = T 6 := by
  have h1 : FI (rdY G I L).1.1 Y := h.1.2.1.1.1
  have h2 := sizeF_le h.fi
  refine ⟨?_, h2.1, h2.2⟩
  rw [← h.2.2, trF_sz]
theorem AtS.lo (h : AtS G C R T Y I P L) {k : Nat} (hk : k < 7 ∨ k = 31 ∨ k = 32) : (rdY G I L).1.1 k = T k := by
  have h1 := h.sz
  rw [← h.2.2]
  exact (trF_a (rdY G I L).1.1 hk (by rw [h1.1]; exact h1.2.1)).symm
theorem AtS.fa (h : AtS G C R T Y I P L) {f j : Nat} (hf : (f : Int) < T 6) (hj : j < 4) : (rdY G I L).1.1 (7 + 4 * f + j) = T (7 + 4 * f + j) := by
  have h1 := h.sz
  rw [← h.2.2]
  refine (tr_a (rdY G I L).1.1 ?_).symm
  rw [h1.1]; omega
theorem at_same (h : AtS G C R T Y I P L) (hq : rdY G I1 L1 = rdY G I L) (hy : YI G C I1 P1 Y) : AtS G C R T Y I1 P1 L1 := ⟨hy, by rw [hq]; exact h.2.1, by rw [hq]; exact h.2.2⟩
theorem at_pass1 (h : AtS G C R T Y I P L) (hq : QY G (passS (rdY G I L) 1).1 (passS (rdY G I L) 1).2 (Y + 20) C r I1 P1 L1) : r = wantF T false ∧ AtS G C R (goF T false) (Y + 20) I1 P1 L1 ∧ (rdY G I1 L1).1 = goL (rdY G I L).1 := by
  obtain ⟨q1, q2, q3⟩ := hq
  have h1 := h.sz
  have e : passS (rdY G I L) 1 = (0 + wantF (rdY G I L).1.1 false, yLu (rdY G I L) (goL (rdY G I L).1)) := if_pos (by omega)
  rw [e] at q1 q2
  have hs : sizeF (rdY G I L).1.1 ≤ 6 := by rw [h1.1]; exact h1.2.1
  refine ⟨?_, ⟨q3, by rw [q2]; exact h.2.1, ?_⟩, by rw [q2]; rfl⟩
  · rw [q1, ← h.2.2, trF_want hs]; show 0 + _ = _; omega
  · rw [q2, ← h.2.2]; exact trF_go hs false
theorem pass_run {S : LSt} {Y : Int} (hF : FI S.1 Y) : ∀ k : Nat, trF (passN S k).2.1 = runF (trF S.1) k ∧ sizeF (passN S k).2.1 ≤ 6 ∧ 0 ≤ (passN S k).1 ∧ (passN S k).1 ≤ 126 * (k : Int) ∧ FI (passN S k).2.1 (Y + k) := by
  intro k
  induction k with
  | zero => exact ⟨rfl, (sizeF_le hF).1, by show (0 : Int) ≤ 0; omega, by show (0 : Int) ≤ 126 * ((0 : Nat) : Int); omega, FI_le hF (by omega)⟩
  | succ k ih =>
    obtain ⟨i1, i2, i3, i4, i5⟩ := ih
    have hw := wantF_in i5 false
    refine ⟨?_, ?_, ?_, ?_, ?_⟩
    · show trF (goF (passN S k).2.1 false) = goF (runF (trF S.1) k) false
      rw [trF_go i2, i1]
    · show sizeF (goF (passN S k).2.1 false) ≤ 6
      rw [sz_go]; exact i2
    · show 0 ≤ (passN S k).1 + wantF (passN S k).2.1 false
      omega
    · show (passN S k).1 + wantF (passN S k).2.1 false ≤ 126 * ((k + 1 : Nat) : Int)
      omega
    · have := FI_go i5 false
      rw [show Y + ((k + 1 : Nat) : Int) = Y + k + 1 by omega]; exact this
theorem at_passm {m : Nat} (h : AtS G C R T Y I P L) (hm : 1 ≤ m ∧ m ≤ 20) (hq : QY G (passS (rdY G I L) (m : Int)).1 (passS (rdY G I L) (m : Int)).2 (Y + 20) C r I1 P1 L1) : (0 ≤ r ∧ r ≤ 2520) ∧ AtS G C R (runF T m) (Y + 20) I1 P1 L1 := by
  obtain ⟨q1, q2, q3⟩ := hq
  have e : passS (rdY G I L) (m : Int) = ((passN (rdY G I L).1 m).1, yLu (rdY G I L) (passN (rdY G I L).1 m).2) := by
    unfold passS
    rw [if_pos (by omega), Int.toNat_natCast]
  rw [e] at q1 q2
  have h1 := pass_run (S := (rdY G I L).1) (Y := Y) h.1.2.1.1.1 m
  refine ⟨?_, q3, by rw [q2]; exact h.2.1, ?_⟩
  · rw [q1]; have h3 := h1.2.2.1; have h4 := h1.2.2.2.1; exact ⟨h3, by omega⟩
  · rw [q2, ← h.2.2]; exact h1.1
theorem at_count {w : Int} (h : AtS G C R T Y I P L) (hw : (1 ≤ w ∧ w ≤ 6) ∨ w = 10 ∨ w = 11) (hq : QY G (countS (rdY G I L) w).1 (countS (rdY G I L) w).2 Y C r I1 P1 L1) : r = (if w = 10 then T 31 else if w = 11 then T 32 else T w.toNat) ∧ AtS G C R T Y I1 P1 L1 := by
  obtain ⟨q1, q2, q3⟩ := hq
  have e : countS (rdY G I L) w = (tallyS (rdY G I L).1.1 (rdY G I L).1.2.1 (rdY G I L).1.2.2.2.1 (rdY G I L).2.2.2.2.1 w, rdY G I L) := if_pos (by omega)
  rw [e] at q1 q2
  refine ⟨?_, at_same h q2 q3⟩
  rw [q1]
  show tallyS _ _ _ _ w = _
  unfold tallyS
  rw [if_neg (by omega), if_neg (by omega), if_neg (by omega), h.lo (k := 31) (by omega), h.lo (k := 32) (by omega)]
  split
  · rfl
  split
  · rfl
  rw [if_neg (by omega), if_neg (by omega)]
  exact h.lo (by omega)
theorem at_cnt {c : Nat} {w : Int} (h : AtS G C R T Y I P L) (hw : w = (c : Int)) (hc : 1 ≤ c ∧ c ≤ 6) (hq : QY G (countS (rdY G I L) w).1 (countS (rdY G I L) w).2 Y C r I1 P1 L1) : r = T c ∧ AtS G C R T Y I1 P1 L1 := by
  subst hw
  obtain ⟨h1, h2⟩ := at_count h (by omega) hq
  rw [if_neg (by omega), if_neg (by omega), Int.toNat_natCast] at h1
  exact ⟨h1, h2⟩
theorem FI_c {c : Nat} (h : FI T Y) (hc : 2 ≤ c ∧ c ≤ 5) : 0 ≤ T c ∧ T c ≤ 9999 := by
  obtain ⟨-, -, h2, h3, h4, h5, -⟩ := h
  rcases (show c = 2 ∨ c = 3 ∨ c = 4 ∨ c = 5 by omega) with rfl | rfl | rfl | rfl
  · exact h2
  · exact h3
  · exact h4
  · exact h5
theorem at_about {f j : Nat} {x w : Int} (h : AtS G C R T Y I P L) (hx : x = (f : Int)) (hw : w = (j : Int)) (hf : (f : Int) < T 6) (hj : j < 4) (hq : QY G (aboutS (rdY G I L) x w).1 (aboutS (rdY G I L) x w).2 Y C r I1 P1 L1) : r = T (7 + 4 * f + j) ∧ AtS G C R T Y I1 P1 L1 := by
  subst hx hw
  obtain ⟨q1, q2, q3⟩ := hq
  have h6 := h.lo (k := 6) (by omega)
  have e : aboutS (rdY G I L) (f : Int) (j : Int) = ((rdY G I L).1.1 (7 + 4 * f + j), rdY G I L) := by
    unfold aboutS
    rw [if_pos (by omega), Int.toNat_natCast, Int.toNat_natCast]
  rw [e] at q1 q2
  exact ⟨q1.trans (h.fa hf hj), at_same h q2 q3⟩
theorem at_store0 {v : Int} (h : AtS G C R T Y I P L) (hv : 0 ≤ v ∧ v ≤ 9999) (hq : QY G (storeS (rdY G I L) 0 v).1 (storeS (rdY G I L) 0 v).2 Y C r I1 P1 L1) : r = T 2 ∧ AtS G C R (up T 2 v) Y I1 P1 L1 := by
  obtain ⟨q1, q2, q3⟩ := hq
  have e : storeS (rdY G I L) 0 v = ((rdY G I L).1.1 2, yLu (rdY G I L) (lF (rdY G I L).1 (up (rdY G I L).1.1 2 v))) := if_pos ⟨by omega, hv⟩
  rw [e] at q1 q2
  refine ⟨q1.trans (h.lo (k := 2) (by omega)), q3, by rw [q2]; exact h.2.1, ?_⟩
  rw [q2, ← h.2.2]
  exact trF_up _ _ (by omega)
theorem at_job {f : Nat} {x v : Int} (h : AtS G C R T Y I P L) (hx : x = (f : Int)) (hf : (f : Int) < T 6) (hv : 0 ≤ v ∧ v ≤ 4) (hq : QY G (jobS (rdY G I L) x v).1 (jobS (rdY G I L) x v).2 Y C r I1 P1 L1) : r = T (10 + 4 * f) ∧ AtS G C R (up T (10 + 4 * f) v) Y I1 P1 L1 := by
  subst hx
  obtain ⟨q1, q2, q3⟩ := hq
  have h6 := h.lo (k := 6) (by omega)
  have h1 := h.sz
  have e : jobS (rdY G I L) (f : Int) v = ((rdY G I L).1.1 (10 + 4 * f), yLu (rdY G I L) (lF (rdY G I L).1 (up (rdY G I L).1.1 (10 + 4 * f) v))) := by
    unfold jobS
    rw [if_pos (by omega), Int.toNat_natCast]
  rw [e] at q1 q2
  have hfa := h.fa (f := f) (j := 3) hf (by omega)
  rw [show 7 + 4 * f + 3 = 10 + 4 * f by omega] at hfa
  refine ⟨q1.trans hfa, q3, by rw [q2]; exact h.2.1, ?_⟩
  have es : sizeF (up (rdY G I L).1.1 (10 + 4 * f) v) = sizeF (rdY G I L).1.1 := sz_same (up_n _ _ (by omega))
  rw [q2, ← h.2.2]
  show trF (up (rdY G I L).1.1 (10 + 4 * f) v) = up (trF (rdY G I L).1.1) (10 + 4 * f) v
  unfold trF
  rw [es]
  refine tr_up _ _ ?_
  rw [h1.1]; omega
theorem at_want {m : Nat} (h : AtS G C R T Y I P L) (hm : m ≤ 20) (hq : QY G (wantS (rdY G I L) (m : Int)).1 (wantS (rdY G I L) (m : Int)).2 Y C r I1 P1 L1) : r = firstF T m ∧ AtS G C R T Y I1 P1 L1 := by
  obtain ⟨q1, q2, q3⟩ := hq
  have e : wantS (rdY G I L) (m : Int) = (firstF (trF (rdY G I L).1.1) m, rdY G I L) := by
    unfold wantS
    rw [if_pos (by omega), Int.toNat_natCast]
  rw [e] at q1 q2
  exact ⟨by rw [q1, ← h.2.2], at_same h q2 q3⟩
theorem at_held {m : Nat} (h : AtS G C R T Y I P L) (hm : m ≤ 20) (hq : QY G (heldS (rdY G I L) (m : Int)).1 (heldS (rdY G I L) (m : Int)).2 Y C r I1 P1 L1) : r = heldF T m ∧ AtS G C R T Y I1 P1 L1 := by
  obtain ⟨q1, q2, q3⟩ := hq
  have e : heldS (rdY G I L) (m : Int) = (heldF (trF (rdY G I L).1.1) m, rdY G I L) := by
    unfold heldS
    rw [if_pos (by omega), Int.toNat_natCast]
  rw [e] at q1 q2
  exact ⟨by rw [q1, ← h.2.2], at_same h q2 q3⟩
theorem at_teach {m : Nat} (h : AtS G C R T Y I P L) (hm : m ≤ 20) (hq : QY G (teachersS (rdY G I L) (m : Int)).1 (teachersS (rdY G I L) (m : Int)).2 Y C r I1 P1 L1) : r = fewT T m (2 ^ sizeF T) ∧ AtS G C R T Y I1 P1 L1 := by
  obtain ⟨q1, q2, q3⟩ := hq
  have e : teachersS (rdY G I L) (m : Int) = (fewT (trF (rdY G I L).1.1) m (2 ^ sizeF (rdY G I L).1.1), rdY G I L) := by
    unfold teachersS
    rw [if_pos (by omega), Int.toNat_natCast]
  rw [e] at q1 q2
  exact ⟨by rw [q1, ← h.2.2, trF_sz], at_same h q2 q3⟩
/-- the image that is kept -/
def ImR (R : LSt × LSt × (Nat → Int) × Int × Int × Int × Int × Int × Int × Int) (T : Nat → Int) : Prop := trF R.1.1 = T ∧ R.1.2.1 33 = 0 ∧ R.1.2.2.2.1 = 0 ∧ ¬ b_and (b_shr R.2.2.2.2.1 0) 1 = 0
theorem at_from {T0 : Nat → Int} (h : AtS G C R T Y I P L) (hR : ImR R T0) (hq : QY G (fromS (rdY G I L) 0).1 (fromS (rdY G I L) 0).2 Y C r I1 P1 L1) : r = 1 ∧ AtS G C R T0 Y I1 P1 L1 ∧ NoB G I1 L1 := by
  obtain ⟨q1, q2, q3⟩ := hq
  have h2 := h.2.1
  have e : fromS (rdY G I L) 0 = (1, yLu (rdY G I L) (setL (rdY G I L).1 R.1)) := by
    unfold fromS
    rw [if_pos (by omega), show (rdY G I L).2.2.2.2.2.1 = R.2.2.2.2.1 by rw [← h2], if_neg hR.2.2.2]
    show (1, yLu (rdY G I L) (setL (rdY G I L).1 (rdY G I L).2.1)) = _
    rw [h2]
  rw [e] at q1 q2
  refine ⟨q1, ⟨q3, by rw [q2]; exact h2, ?_⟩, by rw [q2]; exact hR.2.1, by rw [q2]; exact hR.2.2.1⟩
  rw [q2]
  show trF (setF (rdY G I L).1.1 R.1.1) = T0
  rw [trF_set]; exact hR.1
theorem at_plan {m : Nat} {x i : Int} (h : AtS G C R T Y I P L) (hx : x = (m : Int)) (hm : m ≤ 5) (hi : -1 ≤ i) (hq : ∃ a b, QY G (planS (rdY G I L) x i a b).1 (planS (rdY G I L) x i a b).2 Y C r I1 P1 L1) : (∃ a b, r = if (planT T m a b).1 = -1 ∨ i = -1 then (planT T m a b).1 else if i < (m : Int) then (planT T m a b).2.2 i.toNat else -5) ∧ AtS G C R T Y I1 P1 L1 := by
  subst hx
  obtain ⟨a, b, q1, q2, q3⟩ := hq
  have e : planS (rdY G I L) (m : Int) i a b = (if (planT T m a b).1 = -1 ∨ i = -1 then (planT T m a b).1 else if i < (m : Int) then (planT T m a b).2.2 i.toNat else -5, rdY G I L) := by
    unfold planS
    rw [if_pos ⟨by omega, hi⟩, Int.toNat_natCast, h.2.2]
  rw [e] at q1 q2
  exact ⟨⟨a, b, q1⟩, at_same h q2 q3⟩
end CALLS

