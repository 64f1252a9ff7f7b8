/-! what the constructors leave is where the two begin alike -/
def f0 : Nat → Int := fun k => if k = 0 then 10 else 0
theorem f0_n {k : Nat} (h : k ≠ 0) : f0 k = 0 := if_neg h
theorem FI_f0 : FI f0 0 := ⟨⟨by decide, by decide⟩, ⟨by decide, by decide⟩, ⟨by decide, by decide⟩, ⟨by decide, by decide⟩, ⟨by decide, by decide⟩, ⟨by decide, by decide⟩, ⟨by decide, by decide⟩, fun f hf => by
  rw [f0_n (k := 7 + 4 * f) (by omega), f0_n (k := 8 + 4 * f) (by omega), f0_n (k := 9 + 4 * f) (by omega), f0_n (k := 10 + 4 * f) (by omega), f0_n (k := 6) (by decide)]
  omega⟩
theorem BI_00 : BI (fun _ => 0) := ⟨by dsimp only; omega, by dsimp only; omega, by dsimp only; omega, by dsimp only; omega, fun d hd => by dsimp only; omega, fun d hd => by dsimp only; omega, fun i hi => by dsimp only; omega⟩
section START
variable {G : WG} {C C1 : CF} {I I1 : MI} {P P1 : MP} {L L1 : ML}
theorem FN_rd {a : Nat} (h : FN G C I P a) : rdF I a = f0 := by
  obtain ⟨-, -, h3, h4⟩ := h
  funext k
  rw [rd_def]
  by_cases h7 : k < 7
  · rw [if_pos h7, h3]
    show (if k + 4 = 4 then (10 : Int) else 0) = if k = 0 then 10 else 0
    by_cases h0 : k = 0
    · rw [if_pos (by omega), if_pos h0]
    · rw [if_neg (by omega), if_neg h0]
  · rw [if_neg h7]
    by_cases h31 : k < 31
    · rw [if_pos h31, h4 _ (by omega) (by omega), f0_n (by omega)]
    · rw [if_neg h31, h3, f0_n (by omega)]
      show (if k - 20 = 4 then (10 : Int) else 0) = 0
      rw [if_neg (by omega)]
theorem rdB_00 {b : Nat} (h : ∀ x, b ≤ x → x < b + 8 → I x = fun _ => 0) : rdB I b = fun _ => 0 := by
  funext k
  rw [rdB_def, h b (by omega) (by omega), h (b + 1 + (k - 34) % 3) (by omega) (by omega), h (b + 4 + (k - 60) % 3) (by omega) (by omega), h (b + 7) (by omega) (by omega)]
  simp only [ite_self]
theorem FN_way {a : Nat} (h : FN G C I P a) : WayL C P a f0 := fun f hf => ⟨a + 2, h.2.1 f hf, by
  rw [f0_n (k := 7 + 4 * f) (by omega)]
  exact h.1.2.2.2.1⟩
theorem LN_rd {l : Nat} (h : LN G C I P l) : rdL I l = (f0, (fun _ => 0), 0, 0, fun i => if i < 6 then f0 else fun _ => 0) := by
  obtain ⟨-, h2, h3, h4⟩ := h
  refine rdL_mk (FN_rd h3) (rdB_00 (fun x q1 q2 => h2 x (by omega) (by omega))) (by rw [h2 l (by omega) (by omega)]) (by rw [h2 l (by omega) (by omega)]) (fun i hi => ?_) (fun i hi => ?_)
  · rw [if_pos hi]; exact FN_rd (h4 i hi)
  · rw [if_neg (by omega)]
theorem LN_LI {l : Nat} (h : LN G C I P l) : LI (rdL I l) 0 ∧ WaysL C P l (rdL I l) ∧ UI (rdL I l) := by
  rw [LN_rd h]
  refine ⟨⟨FI_f0, BI_00, by show (0 : Int) ≤ 0 ∧ (0 : Int) < 6; omega, by show (0 : Int) ≤ 0 ∧ (0 : Int) ≤ 6; omega, fun i hi => ?_⟩, ⟨FN_way h.2.2.1, fun i hi => ?_⟩, UI_0 rfl⟩
  · show FI (if i < 6 then f0 else fun _ => 0) 0
    rw [if_pos hi]; exact FI_f0
  · show WayL C P (l + 20 + 10 * i) (if i < 6 then f0 else fun _ => 0)
    rw [if_pos hi]; exact FN_way (h.2.2.2 i hi)
theorem TN_TF {t : Nat} (h : TN G C I P t) (i : Nat) (hi : i < 9) : TF C I P (t + 6 + 10 * i) := by
  have hf : FN G C I P (t + 6 + 10 * i) := by
    by_cases h0 : i = 0
    · rw [h0]; exact h.2.2.1
    · have := h.2.2.2 (i - 1) (by omega)
      rw [show t + 6 + 10 * i = t + 16 + 10 * (i - 1) by omega]; exact this
  unfold TF
  rw [FN_rd hf]
  exact ⟨FN_way hf, FI_le FI_f0 (by decide)⟩
theorem YI_start (hN : YN G C I P L) (hT : TxtL G C I) (hS : StatL G C I) (hW : LowL G) : YI G C I P 0 := by
  obtain ⟨hy, a1, a2, a3, a4, ht, hz, -, -⟩ := hN
  obtain ⟨b1, c1, d1⟩ := LN_LI a1
  obtain ⟨b2, c2, d2⟩ := LN_LI a2
  obtain ⟨b3, c3, d3⟩ := LN_LI a3
  obtain ⟨b4, c4, d4⟩ := LN_LI a4
  refine ⟨hy, ⟨b1, b2, b3, b4⟩, ⟨c1, c2, c3, c4⟩, ⟨d1, d3, d4⟩, fun i _ hi => TN_TF ht i hi, ⟨0, ?_, by omega, fun j hj => ?_⟩, fun j hj => ?_, ?_, ?_, hT, hS, hW⟩
  · rw [hz _ (by omega) (by omega)]; rfl
  · rw [hz _ (by omega) (by omega)]; dsimp only; omega
  · rw [hz _ (by omega) (by omega)]; dsimp only; omega
  · rw [ht.2.1 _ (by omega) (by omega)]
  · rw [ht.2.1 _ (by omega) (by omega)]
theorem begR_f0 : begR (fun _ => 0) 10 = f0 := by
  funext k
  unfold begR f0
  by_cases h : k = 0
  · rw [if_pos h, if_pos h]
  · rw [if_neg h, if_neg h]
    split <;> rfl
theorem YR_start {m : Nat} (hN : YN G C I P L) (hR : RN G C1 I P1 L m) : YR (rdY G I L) (rdM m I L) 0 := by
  obtain ⟨-, a1, -, -, -, -, hz, l1, l2⟩ := hN
  obtain ⟨-, r1, r2, r3, r4⟩ := hR
  have hrd := LN_rd a1
  have z7 : I (gB G) = fun _ => 0 := hz _ (by omega) (by omega)
  refine ⟨⟨⟨⟨?_, ?_, ?_⟩, ?_, fun j hj => ?_⟩, ?_⟩, ⟨?_, fun i hi => ⟨Or.inl ?_, ?_, fun hj => ?_⟩⟩, ⟨?_, ?_, ?_⟩, ?_, ?_, ?_, ?_⟩
  · show trF (I (m + 1)) = trF (rdL I (gB G + 11)).1
    rw [hrd, r1, begR_f0]
  · show BE (I (m + 1)) (rdL I (gB G + 11)).2.1
    rw [hrd, r1, begR_f0]
    exact ⟨f0_n (by decide), f0_n (by decide), f0_n (by decide), f0_n (by decide), fun i hi => f0_n (by omega), fun i hi => f0_n (by omega), fun i hi => f0_n (by omega)⟩
  · show DE (rdL I (gB G + 11)).1 (rdL I (gB G + 11)).2.1
    rw [hrd]
    exact ⟨fun d hd => absurd hd (Nat.not_lt_zero d), fun r hr => absurd hr (Nat.not_lt_zero r)⟩
  · show I (m + 1) 115 = (rdL I (gB G + 11)).2.2.2.1
    rw [hrd, r1, begR_f0]; exact f0_n (by decide)
  · replace hj : (j : Int) < (rdL I (gB G + 11)).2.2.2.1 := hj
    rw [hrd] at hj
    have hj2 : (j : Int) < 0 := hj
    omega
  · show ZX (I (m + 1)) 0
    rw [r1]; exact ZX_beg _ (by decide) (by decide)
  · show 0 ≤ I (gB G) 7 ∧ I (gB G) 7 ≤ 3
    rw [z7]; exact ⟨by decide, by decide⟩
  · show I (m + 3) i = 0
    rw [r2 _ (by omega)]
  · show b_and (b_shr (I (gB G) 7) (i : Int)) 1 = I (m + 3) i
    rw [z7, r2 _ (by omega)]
    rcases (show i = 0 ∨ i = 1 by omega) with rfl | rfl
    · decide +kernel
    · decide +kernel
  · exfalso
    have hj2 : I (m + 3) i = 1 := hj
    rw [r2 _ (by omega)] at hj2
    exact absurd (show (0 : Int) = 1 from hj2) (by decide)
  · show I (m + 4) 0 = I (gB G) 8
    rw [z7, r2 _ (by omega)]
  · show I (m + 4) 1 = I (gB G) 9
    rw [z7, r2 _ (by omega)]
  · show I (m + 4) 2 = I (gB G) 10
    rw [z7, r2 _ (by omega)]
  · show I (m + 9) = I (gB G + 2)
    rw [hz (gB G + 2) (by omega) (by omega), r2 (m + 9) (by omega)]
  · show I m 11 = I (gB G + 1) 2
    rw [hz (gB G + 1) (by omega) (by omega), r2 m (Or.inl rfl)]
  · show L m 4 = L (gB G) 11
    rw [r3, l1]
  · show L m 5 = L (gB G) 12
    rw [r4, l2]
theorem YN.keep (h : YN G C I P L) (hc : ∀ x, gB G ≤ x → x < gB G + 427 → C1.1 x = C.1 x) (hi : ∀ x, gB G ≤ x → x < gB G + 427 → I1 x = I x) (hp : ∀ x, gB G ≤ x → x < gB G + 427 → P1 x = P x) (hl : L1 (gB G) = L (gB G)) : YN G C1 I1 P1 L1 := by
  obtain ⟨⟨k0, k4, p0, p1, p2, p3, p4, p5, p6, rd, -, -, -, -, -, kd⟩, a1, a2, a3, a4, ht, hz, l1, l2⟩ := h
  have n1 : LN G C1 I1 P1 (gB G + 11) := a1.keep (fun x q1 q2 => hc x (by omega) (by omega)) (fun x q1 q2 => hi x (by omega) (by omega)) (fun x q1 q2 => hp x (by omega) (by omega))
  have n2 : LN G C1 I1 P1 (gB G + 91) := a2.keep (fun x q1 q2 => hc x (by omega) (by omega)) (fun x q1 q2 => hi x (by omega) (by omega)) (fun x q1 q2 => hp x (by omega) (by omega))
  have n3 : LN G C1 I1 P1 (gB G + 171) := a3.keep (fun x q1 q2 => hc x (by omega) (by omega)) (fun x q1 q2 => hi x (by omega) (by omega)) (fun x q1 q2 => hp x (by omega) (by omega))
  have n4 : LN G C1 I1 P1 (gB G + 251) := a4.keep (fun x q1 q2 => hc x (by omega) (by omega)) (fun x q1 q2 => hi x (by omega) (by omega)) (fun x q1 q2 => hp x (by omega) (by omega))
  have n5 : TN G C1 I1 P1 (gB G + 331) := ht.keep (fun x q1 q2 => hc x (by omega) (by omega)) (fun x q1 q2 => hi x (by omega) (by omega)) (fun x q1 q2 => hp x (by omega) (by omega))
  have hp0 := hp (gB G) (by omega) (by omega)
  refine ⟨⟨(hc _ (by omega) (by omega)).trans k0, (hc _ (by omega) (by omega)).trans k4, by rw [hp0]; exact p0, by rw [hp0]; exact p1, by rw [hp0]; exact p2, by rw [hp0]; exact p3, by rw [hp0]; exact p4, by rw [hp0]; exact p5, by rw [hp0]; exact p6, ⟨rd.1, (hc _ (by omega) (by omega)).trans rd.2.1, (hc _ (by omega) (by omega)).trans rd.2.2.1, (hc _ (by omega) (by omega)).trans rd.2.2.2.1, by rw [hp _ (by omega) (by omega)]; exact rd.2.2.2.2.1, by rw [hp _ (by omega) (by omega)]; exact rd.2.2.2.2.2⟩, n1.1, n2.1, n3.1, n4.1, n5.1, (hc _ (by omega) (by omega)).trans kd.1, fun k hk => ⟨by rw [hp _ (by omega) (by omega)]; exact (kd.2 k hk).1, (hc _ (by omega) (by omega)).trans (kd.2 k hk).2⟩⟩, n1, n2, n3, n4, n5, fun x q1 q2 => by rw [hi x q1 (by omega)]; exact hz x q1 q2, by rw [hl]; exact l1, by rw [hl]; exact l2⟩
theorem RfL.keep {m : Nat} (h : RfL G C P m) (hc : ∀ x, m ≤ x → x < m + 12 → C1.1 x = C.1 x) : RfL G C1 P m := by
  obtain ⟨b0, b1, b2, b3, b4, b5, b6, b7, b8, b9, ba, bb, bc, bp⟩ := h
  exact ⟨b0, (hc _ (by omega) (by omega)).trans b1, (hc _ (by omega) (by omega)).trans b2, (hc _ (by omega) (by omega)).trans b3, (hc _ (by omega) (by omega)).trans b4, (hc _ (by omega) (by omega)).trans b5, (hc _ (by omega) (by omega)).trans b6, (hc _ (by omega) (by omega)).trans b7, (hc _ (by omega) (by omega)).trans b8, (hc _ (by omega) (by omega)).trans b9, (hc _ (by omega) (by omega)).trans ba, (hc _ (by omega) (by omega)).trans bb, (hc _ (by omega) (by omega)).trans bc, bp⟩
end START

