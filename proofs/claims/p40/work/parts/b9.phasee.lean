/-! phase E: the jobs of the plan, one by one -/
theorem ph_e {G : WG} {nm : String} {b Ln nf m : Nat} {K1 K : Nat → Option Kd} {n : Nat × Nat} {Z : Nat × Nat} {Q : Post} {sx : Nat → Int} {Is : MI} {Ps : MP} {Ls : ML} {T : Nat → Int} {R : LSt × LSt × (Nat → Int) × Int × Int × Int × Int × Int × Int × Int} {Y fi he te : Int} {Ic : MI} {Pc : MP} {Lc : ML} (hX : LC b Ln K1 K sx Is) (hnf : nf ≤ 6) (hT6 : T 6 = (nf : Int)) (hR : ImR R T) (hA : AtS G (K1, n) R T Y Ic Pc Lc) (hY : 0 ≤ Y ∧ Y ≤ 10000) (hN : ∀ (Y' : Int) (Ic : MI) (Pc : MP) (Lc : ML), 0 ≤ Y' ∧ Y' ≤ Y + 500 → AtS G (K1, n) R T Y' Ic Pc Lc → NoB G Ic Lc → WJ G nm b nf m fi he te K1 K n Z Q Is Ps Ls 598 Ic Pc Lc) : WJ G nm b nf m fi he te K1 K n Z Q Is Ps Ls 463 Ic Pc Lc := by
  unfold WJ at hN ⊢
  obtain ⟨hs1, hKb, hL, hsc⟩ := hX
  have u4 := upV_in (cellV sx Ln 13) (m := 4) (by decide)
  obtain ⟨p, hp⟩ : ∃ p : Nat, upV (cellV sx Ln 13) 4 = (p : Int) := ⟨(upV (cellV sx Ln 13) 4).toNat, by omega⟩
  have hp3 : p ≤ 3 := by omega
  have st587 : ∀ (T' : Nat → Int) (Y' g k : Int) (x11 x12 x13 : Option Value) (Ic : MI) (Pc : MP) (Lc : ML), 0 ≤ Y' ∧ Y' ≤ Y + 500 → AtS G (K1, n) R T' Y' Ic Pc Lc → Wd G ⟨RL, nm, "([I)Z"⟩ cL_law 17 (some .boolean) 48 Z Q 587 [some (.ref b), some (.ref (gB G)), some (.int (zI (nf : Int))), some (.int (zI (m : Int))), some (.int (zI fi)), some (.int (zI he)), some (.int (zI te)), none, some (.int (zI (p : Int))), some (.int (zI g)), some (.int (zI k)), x11, x12, x13, none, none, none] [] (K, n) (mg K1 Ic Is) (mg K1 Pc Ps) (mg K1 Lc Ls) := by
    intro T' Y' g k x11 x12 x13 Ic Pc Lc hY' hA
    refine r_aload_n (pc := 587) dL_law_587 rfl ?_
    refine r_iconst (pc := 588) dL_law_588 ?_
    refine i_V1if (pc := 589) okX11_from inX11_from selX11_from q680 dL_law_589 (sub_m hs1 _ _ _ _ _ _) (by exact hA.1.1.1) rfl (by decide) (Nat.le_of_ble_eq_true rfl) (sX11_from (G := G) (C := (K1, n)) (I := Ic) (P := Pc) (L := Lc) (h := hA.1)) (fun r1 I1 P1 L1 hq => ?_)
    dsimp only
    obtain ⟨e1, a1, nb1⟩ := at_from hA hR hq
    rw [mg_mg, mg_mg, mg_mg]
    refine r_iconst (pc := 592) dL_law_592 ?_
    refine r_icmp_eq (pc := 593) 598 dL_law_593 (by decide) (by omega) (by omega) (fun h593 => ?_) (fun h593 => ?_)
    · skip
      exact wd_f7 (hN _ _ _ _ hY' a1 nb1)
    · exfalso; omega
  have st572 : ∀ (T' : Nat → Int) (Y' g k : Int) (x11 x12 x13 : Option Value) (Ic : MI) (Pc : MP) (Lc : ML), 0 ≤ Y' ∧ Y' ≤ Y + 500 → -1 ≤ g ∧ g ≤ 9999 → AtS G (K1, n) R T' Y' Ic Pc Lc → (0 ≤ g → T' 2 = g) → Wd G ⟨RL, nm, "([I)Z"⟩ cL_law 17 (some .boolean) 48 Z Q 572 [some (.ref b), some (.ref (gB G)), some (.int (zI (nf : Int))), some (.int (zI (m : Int))), some (.int (zI fi)), some (.int (zI he)), some (.int (zI te)), none, some (.int (zI (p : Int))), some (.int (zI g)), some (.int (zI k)), x11, x12, x13, none, none, none] [] (K, n) (mg K1 Ic Is) (mg K1 Pc Ps) (mg K1 Lc Ls) := by
    intro T' Y' g k x11 x12 x13 Ic Pc Lc hY' hg hA hT2
    by_cases hneg : g < 0
    · skip
      refine r_iload (pc := 572) dL_law_572 rfl ?_
      refine r_if_lt (pc := 574) 587 dL_law_574 (by decide) (by omega) (fun h574 => ?_) (fun h574 => ?_)
      · skip
        exact st587 _ _ _ _ _ _ _ Ic Pc Lc hY' hA
      · exfalso; omega
    · have h2 := hT2 (by omega)
      refine r_iload (pc := 572) dL_law_572 rfl ?_
      refine r_if_lt (pc := 574) 587 dL_law_574 (by decide) (by omega) (fun h574 => ?_) (fun h574 => ?_)
      · exfalso; omega
      · skip
        refine r_aload_n (pc := 577) dL_law_577 rfl ?_
        refine r_iconst (pc := 578) dL_law_578 ?_
        refine i_V1if (pc := 579) okX11_count inX11_count selX11_count q684 dL_law_579 (sub_m hs1 _ _ _ _ _ _) (by exact hA.1.1.1) rfl (by decide) (Nat.le_of_ble_eq_true rfl) (sX11_count (G := G) (C := (K1, n)) (I := Ic) (P := Pc) (L := Lc) (h := hA.1)) (fun r1 I1 P1 L1 hq => ?_)
        dsimp only
        obtain ⟨e1, a1⟩ := at_cnt (c := 2) hA rfl (by omega) hq
        rw [mg_mg, mg_mg, mg_mg]
        refine r_iload (pc := 582) dL_law_582 rfl ?_
        refine r_icmp_ne (pc := 584) 596 dL_law_584 (by decide) (by omega) (by omega) (fun h584 => ?_) (fun h584 => ?_)
        · exfalso; omega
        · skip
          exact st587 _ _ _ _ _ _ _ I1 P1 L1 hY' a1
  have st487 : ∀ (d k : Nat) (i g : Int) (T' : Nat → Int) (x11 x12 x13 : Option Value) (Ic : MI) (Pc : MP) (Lc : ML), k + d = p → i = (k : Int) → -1 ≤ g ∧ g ≤ 9999 → T' 6 = (nf : Int) → AtS G (K1, n) R T' (Y + 20 * (k : Int)) Ic Pc Lc → (0 ≤ g → bestV d T' = g) → Wd G ⟨RL, nm, "([I)Z"⟩ cL_law 17 (some .boolean) 48 Z Q 487 [some (.ref b), some (.ref (gB G)), some (.int (zI (nf : Int))), some (.int (zI (m : Int))), some (.int (zI fi)), some (.int (zI he)), some (.int (zI te)), none, some (.int (zI (p : Int))), some (.int (zI g)), some (.int (zI i)), x11, x12, x13, none, none, none] [] (K, n) (mg K1 Ic Is) (mg K1 Pc Ps) (mg K1 Lc Ls) := by
    intro d
    induction d with
    | zero =>
      intro k i g T' x11 x12 x13 Ic Pc Lc hd hi hg h6 hA hb
      refine r_iload (pc := 487) dL_law_487 rfl ?_
      refine r_iload (pc := 489) dL_law_489 rfl ?_
      refine r_icmp_ge (pc := 491) 572 dL_law_491 (by decide) (by omega) (by omega) (fun h491 => ?_) (fun h491 => ?_)
      · skip
        exact st572 _ _ _ _ _ _ _ Ic Pc Lc (by omega) hg hA hb
      · exfalso; omega
    | succ d ih =>
      intro k i g T' x11 x12 x13 Ic Pc Lc hd hi hg h6 hA hb
      by_cases hneg : g < 0
      · skip
        refine r_iload (pc := 487) dL_law_487 rfl ?_
        refine r_iload (pc := 489) dL_law_489 rfl ?_
        refine r_icmp_ge (pc := 491) 572 dL_law_491 (by decide) (by omega) (by omega) (fun h491 => ?_) (fun h491 => ?_)
        · exfalso; omega
        · skip
          refine r_iload (pc := 494) dL_law_494 rfl ?_
          refine r_if_lt (pc := 496) 572 dL_law_496 (by decide) (by omega) (fun h496 => ?_) (fun h496 => ?_)
          · skip
            exact st572 _ _ _ _ _ _ _ Ic Pc Lc (by omega) hg hA (fun hz => by omega)
          · exfalso; omega
      have hbv := hb (by omega)
      have hsz : sizeF T' = nf := by have := hA.sz; omega
      have hFI := hA.fi
      have st536 : ∀ (j : Nat) (y : Int) (x13 : Option Value) (Ic : MI) (Pc : MP) (Lc : ML), j < 5 → wantF (jobsF T' j nf) false = 0 → bestV d (goF (jobsF T' j nf) false) = g → AtS G (K1, n) R (jobsF T' j nf) (Y + 20 * (k : Int)) Ic Pc Lc → Wd G ⟨RL, nm, "([I)Z"⟩ cL_law 17 (some .boolean) 48 Z Q 536 [some (.ref b), some (.ref (gB G)), some (.int (zI (nf : Int))), some (.int (zI (m : Int))), some (.int (zI fi)), some (.int (zI he)), some (.int (zI te)), none, some (.int (zI (p : Int))), some (.int (zI g)), some (.int (zI i)), some (.int (zI (j : Int))), some (.int (zI y)), x13, none, none, none] [] (K, n) (mg K1 Ic Is) (mg K1 Pc Ps) (mg K1 Lc Ls) := by
        intro j y x13 Ic Pc Lc hj hw hbg hA2
        have hF2 := hA2.fi
        have hbj := best_jobs (d + 1) T' (j : Int)
        rw [hsz, hbv] at hbj
        have h62 : jobsF T' j nf 6 = (nf : Int) := by rw [fx_jobs T' j (by omega), h6]
        refine r_iload (pc := 536) dL_law_536 rfl ?_
        refine r_if_lt (pc := 538) 564 dL_law_538 (by decide) (by omega) (fun h538 => ?_) (fun h538 => ?_)
        · exfalso; omega
        · skip
          refine r_aload_n (pc := 541) dL_law_541 rfl ?_
          refine r_iload (pc := 542) dL_law_542 rfl ?_
          refine r_iload (pc := 544) dL_law_544 rfl ?_
          refine r_isub (pc := 546) dL_law_546 ?_
          refine r_iconst (pc := 547) dL_law_547 ?_
          refine i_V2if (pc := 548) okX11_plan inX11_plan selX11_plan q525 dL_law_548 (sub_m hs1 _ _ _ _ _ _) (by exact hA2.1.1.1) rfl (by decide) (Nat.le_of_ble_eq_true rfl) (sX11_plan (G := G) (C := (K1, n)) (I := Ic) (P := Pc) (L := Lc) (h := hA2.1)) (fun r1 I1 P1 L1 hq => ?_)
          dsimp only
          obtain ⟨⟨qa, qb, e1⟩, a1⟩ := at_plan (m := d + 1) hA2 (by omega) (by omega) (by omega) hq
          rw [if_pos (Or.inr rfl), plan_val hF2, hbj] at e1
          rw [mg_mg, mg_mg, mg_mg]
          refine r_iload (pc := 551) dL_law_551 rfl ?_
          refine r_icmp_ne (pc := 553) 564 dL_law_553 (by decide) (by omega) (by omega) (fun h553 => ?_) (fun h553 => ?_)
          · exfalso; omega
          · skip
            refine r_aload_n (pc := 556) dL_law_556 rfl ?_
            refine r_iconst (pc := 557) dL_law_557 ?_
            refine i_V1if (pc := 558) okX11_pass inX11_pass selX11_pass q344 dL_law_558 (sub_m hs1 _ _ _ _ _ _) (by exact a1.1.1.1) rfl (by decide) (Nat.le_of_ble_eq_true rfl) (sX11_pass (G := G) (C := (K1, n)) (I := I1) (P := P1) (L := L1) (h := a1.1)) (fun r2 I2 P2 L2 hq2 => ?_)
            dsimp only
            obtain ⟨e2, a2, -⟩ := at_pass1 a1 hq2
            rw [mg_mg, mg_mg, mg_mg]
            refine r_if_eq (pc := 561) 566 dL_law_561 (by decide) (by omega) (fun h561 => ?_) (fun h561 => ?_)
            · skip
              refine r_iinc (pc := 566) dL_law_566 rfl ?_
              refine r_goto (pc := 569) 487 dL_law_569 (by decide) ?_
              exact ih (k + 1) _ _ _ _ _ _ I2 P2 L2 (by omega) (by omega) hg (by rw [go_6]; exact h62) (by rw [show Y + 20 * ((k + 1 : Nat) : Int) = Y + 20 * (k : Int) + 20 by omega]; exact a2) (fun _ => hbg)
            · exfalso; omega
      have st514 : ∀ (j : Nat) (e f : Nat) (y : Int) (x13 : Option Value) (Ic : MI) (Pc : MP) (Lc : ML), j < 5 → wantF (jobsF T' j nf) false = 0 → bestV d (goF (jobsF T' j nf) false) = g → f + e = nf → y = (f : Int) → AtS G (K1, n) R (jobsF T' j f) (Y + 20 * (k : Int)) Ic Pc Lc → Wd G ⟨RL, nm, "([I)Z"⟩ cL_law 17 (some .boolean) 48 Z Q 514 [some (.ref b), some (.ref (gB G)), some (.int (zI (nf : Int))), some (.int (zI (m : Int))), some (.int (zI fi)), some (.int (zI he)), some (.int (zI te)), none, some (.int (zI (p : Int))), some (.int (zI g)), some (.int (zI i)), some (.int (zI (j : Int))), some (.int (zI y)), x13, none, none, none] [] (K, n) (mg K1 Ic Is) (mg K1 Pc Ps) (mg K1 Lc Ls) := by
        intro j e
        induction e with
        | zero =>
          intro f y x13 Ic Pc Lc hj hw hbg he1 hy1 hA2
          obtain rfl : f = nf := by omega
          refine r_iload (pc := 514) dL_law_514 rfl ?_
          refine r_iload_n (pc := 516) dL_law_516 rfl ?_
          refine r_icmp_ge (pc := 517) 536 dL_law_517 (by decide) (by omega) (by omega) (fun h517 => ?_) (fun h517 => ?_)
          · skip
            exact st536 j _ _ Ic Pc Lc hj hw hbg hA2
          · exfalso; omega
        | succ e ihe =>
          intro f y x13 Ic Pc Lc hj hw hbg he1 hy1 hA2
          have h62 : jobsF T' j f 6 = (nf : Int) := by rw [fx_jobs T' j (by omega), h6]
          refine r_iload (pc := 514) dL_law_514 rfl ?_
          refine r_iload_n (pc := 516) dL_law_516 rfl ?_
          refine r_icmp_ge (pc := 517) 536 dL_law_517 (by decide) (by omega) (by omega) (fun h517 => ?_) (fun h517 => ?_)
          · exfalso; omega
          · skip
            refine r_aload_n (pc := 520) dL_law_520 rfl ?_
            refine r_iload (pc := 521) dL_law_521 rfl ?_
            refine r_iload (pc := 523) dL_law_523 rfl ?_
            refine i_V2if (pc := 525) okX11_job inX11_job selX11_job q332 dL_law_525 (sub_m hs1 _ _ _ _ _ _) (by exact hA2.1.1.1) rfl (by decide) (Nat.le_of_ble_eq_true rfl) (sX11_job (G := G) (C := (K1, n)) (I := Ic) (P := Pc) (L := Lc) (h := hA2.1)) (fun r1 I1 P1 L1 hq => ?_)
            dsimp only
            obtain ⟨e1, a1⟩ := at_job (f := f) hA2 hy1 (by omega) (by omega) hq
            rw [mg_mg, mg_mg, mg_mg]
            refine r_istore (pc := 528) dL_law_528 (by decide) ?_
            refine r_iinc (pc := 530) dL_law_530 rfl ?_
            refine r_goto (pc := 533) 514 dL_law_533 (by decide) ?_
            exact ihe (f + 1) _ _ I1 P1 L1 hj hw hbg (by omega) (by omega) a1
      refine r_iload (pc := 487) dL_law_487 rfl ?_
      refine r_iload (pc := 489) dL_law_489 rfl ?_
      refine r_icmp_ge (pc := 491) 572 dL_law_491 (by decide) (by omega) (by omega) (fun h491 => ?_) (fun h491 => ?_)
      · exfalso; omega
      · skip
        refine r_iload (pc := 494) dL_law_494 rfl ?_
        refine r_if_lt (pc := 496) 572 dL_law_496 (by decide) (by omega) (fun h496 => ?_) (fun h496 => ?_)
        · exfalso; omega
        · skip
          refine r_aload_n (pc := 499) dL_law_499 rfl ?_
          refine r_iload (pc := 500) dL_law_500 rfl ?_
          refine r_iload (pc := 502) dL_law_502 rfl ?_
          refine r_isub (pc := 504) dL_law_504 ?_
          refine r_iconst (pc := 505) dL_law_505 ?_
          refine i_V2if (pc := 506) okX11_plan inX11_plan selX11_plan q525 dL_law_506 (sub_m hs1 _ _ _ _ _ _) (by exact hA.1.1.1) rfl (by decide) (Nat.le_of_ble_eq_true rfl) (sX11_plan (G := G) (C := (K1, n)) (I := Ic) (P := Pc) (L := Lc) (h := hA.1)) (fun r1 I1 P1 L1 hq => ?_)
          dsimp only
          obtain ⟨⟨qa, qb, e1⟩, a1⟩ := at_plan (m := d + 1) hA (by omega) (by omega) (by omega) hq
          have hpv := plan_val hFI (d + 1) qa qb
          rw [hbv] at hpv
          obtain ⟨j, hj5, hj0, hjw, hjb⟩ := plan_job (k := d) (T := T') (a := qa) (b := qb) (by omega)
          rw [hpv, hsz] at hjb
          rw [hsz] at hjw
          rw [if_neg (by rintro (hz | hz) <;> omega), if_pos (by omega), show (0 : Int).toNat = 0 from rfl, hj0] at e1
          subst e1
          rw [mg_mg, mg_mg, mg_mg]
          refine r_istore (pc := 509) dL_law_509 (by decide) ?_
          refine r_iconst (pc := 511) dL_law_511 ?_
          refine r_istore (pc := 512) dL_law_512 (by decide) ?_
          exact st514 j nf 0 _ _ I1 P1 L1 hj5 hjw hjb (by omega) (by omega) a1
  refine r_aload_n (pc := 463) dL_law_463 rfl ?_
  refine r_bipush (pc := 464) dL_law_464 (by decide) ?_
  refine i_S2ix (pc := 466) okL_cell staL_cell q692 dL_law_466 (by decide) (Nat.le_of_ble_eq_true rfl) (sL_cell (k := 13) hKb (hsc _)) ?_
  refine r_iconst (pc := 469) dL_law_469 ?_
  refine i_S2ix (pc := 470) okL_up staL_up q696 dL_law_470 (by decide) (Nat.le_of_ble_eq_true rfl) (sL_up) ?_
  rw [hp]
  refine r_istore (pc := 473) dL_law_473 (by decide) ?_
  refine r_aload_n (pc := 475) dL_law_475 rfl ?_
  refine r_iload (pc := 476) dL_law_476 rfl ?_
  refine r_iconst (pc := 478) dL_law_478 ?_
  refine i_V2if (pc := 479) okX11_plan inX11_plan selX11_plan q525 dL_law_479 (sub_m hs1 _ _ _ _ _ _) (by exact hA.1.1.1) rfl (by decide) (Nat.le_of_ble_eq_true rfl) (sX11_plan (G := G) (C := (K1, n)) (I := Ic) (P := Pc) (L := Lc) (h := hA.1)) (fun r1 I1 P1 L1 hq => ?_)
  dsimp only
  obtain ⟨⟨qa, qb, hg⟩, a1⟩ := at_plan (m := p) hA rfl (by omega) (by omega) hq
  rw [if_pos (Or.inr rfl), plan_val hA.fi] at hg
  rw [mg_mg, mg_mg, mg_mg]
  refine r_istore (pc := 482) dL_law_482 (by decide) ?_
  refine r_iconst (pc := 484) dL_law_484 ?_
  refine r_istore (pc := 485) dL_law_485 (by decide) ?_
  refine st487 p 0 _ _ T _ _ _ I1 P1 L1 (by omega) (by omega) ?_ hT6 (by rw [show Y + 20 * ((0 : Nat) : Int) = Y by omega]; exact a1) (fun _ => hg.symm)
  rw [hg]
  exact ⟨bestV_lo hA.fi p, bestV_hi hA.fi⟩

