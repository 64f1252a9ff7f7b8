/-! the law's cases: class and reference answer alike, what holds between the calls is kept -/
theorem cs_want {G : WG} {nm : String} {b m i L : Nat} {K1 K2 K : Nat → Option Kd} {n : Nat × Nat} {Z : Nat × Nat} {Q : Post} {sx : Nat → Int} {Is : MI} {Ps : MP} {Ls : ML} {Y : Int} {Ic : MI} {Pc : MP} {Lc : ML} {Im : MI} {Pm : MP} {Lm : ML} (hX : LX G b L K1 K2 K n sx Is) (hZ : LZ G m K1 K2 n Y Ic Pc Lc Im Pm Lm) (hi : i + 7 ≤ L) (hYi : Y ≤ 20 * (i : Int)) (hN : ∀ (Y' : Int) (Ic' : MI) (Pc' : MP) (Lc' : ML) (Im' : MI) (Lm' : ML), Y' ≤ Y + 20 → LZ G m K1 K2 n Y' Ic' Pc' Lc' Im' Pm Lm' → WL G nm b m i K1 K2 K n Z Q Is Ps Ls 1253 Ic' Pc' Lc' Im' Pm Lm') : WL G nm b m i K1 K2 K n Z Q Is Ps Ls 525 Ic Pc Lc Im Pm Lm := by
  obtain ⟨hs1, hs2, hdi, hKb, hL, hxi, hsc⟩ := hX
  obtain ⟨hYI, hRf, hR, hY0⟩ := hZ
  have hSI := YI_SI (L := Lc) hYI
  have hr0 := hsc Ic Im Pc Y hYI
  have hx1 := hxi (i + 1) (by omega)
  have hF : FI (Im (m + 1)) Y := hR.1.2.1
  have hBI : BI (Im (m + 1)) := hR.1.2.2.1
  have hRR := rel_want hR hSI (sx (i + 1))
  unfold WL
  refine r_aload_n (pc := 525) dL_law_525 rfl ?_
  refine r_aload_n (pc := 526) dL_law_526 rfl ?_
  refine r_iload_n (pc := 527) dL_law_527 rfl ?_
  refine r_iconst (pc := 528) dL_law_528 ?_
  refine r_iadd (pc := 529) dL_law_529 ?_
  refine r_iald (j := i + 1) (pc := 530) dL_law_530 (by exact hKb) (by omega) (by omega) (by omega) ?_
  rw [hr0 (i + 1) (by omega)]
  refine i_V1if (pc := 531) okX11_want inX11_want selX11_want q755 dL_law_531 (sub_1 hs1 _ _ _ _ _ _ _ _ _) (by exact hYI.1.1) rfl (by decide) (Nat.le_of_ble_eq_true rfl) (sX11_want (G := G) (C := (K1, n)) (I := Ic) (P := Pc) (L := Lc)) (fun r1 I1 P1 L1 hq => ?_)
  dsimp only
  obtain ⟨q1, q2, q3⟩ := hq
  rw [mg_1, mg_1, mg_1]
  have hr1 := hsc I1 Im P1 Y q3
  refine r_aload_n (pc := 534) dL_law_534 rfl ?_
  refine r_aload_n (pc := 535) dL_law_535 rfl ?_
  refine r_iload_n (pc := 536) dL_law_536 rfl ?_
  refine r_iconst (pc := 537) dL_law_537 ?_
  refine r_iadd (pc := 538) dL_law_538 ?_
  refine r_iald (j := i + 1) (pc := 539) dL_law_539 (by exact hKb) (by omega) (by omega) (by omega) ?_
  rw [hr1 (i + 1) (by omega)]
  refine i_V1if (pc := 540) okX12_want inX12_want selX12_want q1239 dL_law_540 (sub_2 hdi hs2 _ _ _ _ _ _ _ _ _) (by exact hRf.2.1) rfl (by decide) (Nat.le_of_ble_eq_true rfl) (sX12_want (G := G) (C := (K2, n)) (I := Im) (P := Pm) (L := Lm)) (fun r2 I2 P2 L2 hq => ?_)
  dsimp only
  obtain ⟨w1, w2, w3⟩ := hq
  rw [mg_2 hdi, mg_2 hdi, mg_2 hdi]
  subst w3
  have e := q1.trans (hRR.1.trans w1.symm)
  subst e
  exact r_jeq (pc := 543) 1253 dL_law_543 (by decide) (hN Y I1 P1 L1 I2 L2 (by omega) ⟨q3, hRf, by rw [q2, w2]; exact hRR.2, by omega⟩)
theorem cs_held {G : WG} {nm : String} {b m i L : Nat} {K1 K2 K : Nat → Option Kd} {n : Nat × Nat} {Z : Nat × Nat} {Q : Post} {sx : Nat → Int} {Is : MI} {Ps : MP} {Ls : ML} {Y : Int} {Ic : MI} {Pc : MP} {Lc : ML} {Im : MI} {Pm : MP} {Lm : ML} (hX : LX G b L K1 K2 K n sx Is) (hZ : LZ G m K1 K2 n Y Ic Pc Lc Im Pm Lm) (hi : i + 7 ≤ L) (hYi : Y ≤ 20 * (i : Int)) (hN : ∀ (Y' : Int) (Ic' : MI) (Pc' : MP) (Lc' : ML) (Im' : MI) (Lm' : ML), Y' ≤ Y + 20 → LZ G m K1 K2 n Y' Ic' Pc' Lc' Im' Pm Lm' → WL G nm b m i K1 K2 K n Z Q Is Ps Ls 1253 Ic' Pc' Lc' Im' Pm Lm') : WL G nm b m i K1 K2 K n Z Q Is Ps Ls 548 Ic Pc Lc Im Pm Lm := by
  obtain ⟨hs1, hs2, hdi, hKb, hL, hxi, hsc⟩ := hX
  obtain ⟨hYI, hRf, hR, hY0⟩ := hZ
  have hSI := YI_SI (L := Lc) hYI
  have hr0 := hsc Ic Im Pc Y hYI
  have hx1 := hxi (i + 1) (by omega)
  have hF : FI (Im (m + 1)) Y := hR.1.2.1
  have hBI : BI (Im (m + 1)) := hR.1.2.2.1
  have hRR := rel_held hR hSI (sx (i + 1))
  unfold WL
  refine r_aload_n (pc := 548) dL_law_548 rfl ?_
  refine r_aload_n (pc := 549) dL_law_549 rfl ?_
  refine r_iload_n (pc := 550) dL_law_550 rfl ?_
  refine r_iconst (pc := 551) dL_law_551 ?_
  refine r_iadd (pc := 552) dL_law_552 ?_
  refine r_iald (j := i + 1) (pc := 553) dL_law_553 (by exact hKb) (by omega) (by omega) (by omega) ?_
  rw [hr0 (i + 1) (by omega)]
  refine i_V1if (pc := 554) okX11_held inX11_held selX11_held q763 dL_law_554 (sub_1 hs1 _ _ _ _ _ _ _ _ _) (by exact hYI.1.1) rfl (by decide) (Nat.le_of_ble_eq_true rfl) (sX11_held (G := G) (C := (K1, n)) (I := Ic) (P := Pc) (L := Lc)) (fun r1 I1 P1 L1 hq => ?_)
  dsimp only
  obtain ⟨q1, q2, q3⟩ := hq
  rw [mg_1, mg_1, mg_1]
  have hr1 := hsc I1 Im P1 Y q3
  refine r_aload_n (pc := 557) dL_law_557 rfl ?_
  refine r_aload_n (pc := 558) dL_law_558 rfl ?_
  refine r_iload_n (pc := 559) dL_law_559 rfl ?_
  refine r_iconst (pc := 560) dL_law_560 ?_
  refine r_iadd (pc := 561) dL_law_561 ?_
  refine r_iald (j := i + 1) (pc := 562) dL_law_562 (by exact hKb) (by omega) (by omega) (by omega) ?_
  rw [hr1 (i + 1) (by omega)]
  refine i_V1if (pc := 563) okX12_held inX12_held selX12_held q1248 dL_law_563 (sub_2 hdi hs2 _ _ _ _ _ _ _ _ _) (by exact hRf.2.1) rfl (by decide) (Nat.le_of_ble_eq_true rfl) (sX12_held (G := G) (C := (K2, n)) (I := Im) (P := Pm) (L := Lm)) (fun r2 I2 P2 L2 hq => ?_)
  dsimp only
  obtain ⟨w1, w2, w3⟩ := hq
  rw [mg_2 hdi, mg_2 hdi, mg_2 hdi]
  subst w3
  have e := q1.trans (hRR.1.trans w1.symm)
  subst e
  exact r_jeq (pc := 566) 1253 dL_law_566 (by decide) (hN Y I1 P1 L1 I2 L2 (by omega) ⟨q3, hRf, by rw [q2, w2]; exact hRR.2, by omega⟩)
theorem cs_chance {G : WG} {nm : String} {b m i L : Nat} {K1 K2 K : Nat → Option Kd} {n : Nat × Nat} {Z : Nat × Nat} {Q : Post} {sx : Nat → Int} {Is : MI} {Ps : MP} {Ls : ML} {Y : Int} {Ic : MI} {Pc : MP} {Lc : ML} {Im : MI} {Pm : MP} {Lm : ML} (hX : LX G b L K1 K2 K n sx Is) (hZ : LZ G m K1 K2 n Y Ic Pc Lc Im Pm Lm) (hi : i + 7 ≤ L) (hYi : Y ≤ 20 * (i : Int)) (hN : ∀ (Y' : Int) (Ic' : MI) (Pc' : MP) (Lc' : ML) (Im' : MI) (Lm' : ML), Y' ≤ Y + 20 → LZ G m K1 K2 n Y' Ic' Pc' Lc' Im' Pm Lm' → WL G nm b m i K1 K2 K n Z Q Is Ps Ls 1253 Ic' Pc' Lc' Im' Pm Lm') : WL G nm b m i K1 K2 K n Z Q Is Ps Ls 571 Ic Pc Lc Im Pm Lm := by
  obtain ⟨hs1, hs2, hdi, hKb, hL, hxi, hsc⟩ := hX
  obtain ⟨hYI, hRf, hR, hY0⟩ := hZ
  have hSI := YI_SI (L := Lc) hYI
  have hr0 := hsc Ic Im Pc Y hYI
  have hx1 := hxi (i + 1) (by omega)
  have hx2 := hxi (i + 2) (by omega)
  have hF : FI (Im (m + 1)) Y := hR.1.2.1
  have hBI : BI (Im (m + 1)) := hR.1.2.2.1
  have hRR := rel_chance hR hSI (sx (i + 1)) (sx (i + 2))
  unfold WL
  refine r_aload_n (pc := 571) dL_law_571 rfl ?_
  refine r_aload_n (pc := 572) dL_law_572 rfl ?_
  refine r_iload_n (pc := 573) dL_law_573 rfl ?_
  refine r_iconst (pc := 574) dL_law_574 ?_
  refine r_iadd (pc := 575) dL_law_575 ?_
  refine r_iald (j := i + 1) (pc := 576) dL_law_576 (by exact hKb) (by omega) (by omega) (by omega) ?_
  rw [hr0 (i + 1) (by omega)]
  refine r_aload_n (pc := 577) dL_law_577 rfl ?_
  refine r_iload_n (pc := 578) dL_law_578 rfl ?_
  refine r_iconst (pc := 579) dL_law_579 ?_
  refine r_iadd (pc := 580) dL_law_580 ?_
  refine r_iald (j := i + 2) (pc := 581) dL_law_581 (by exact hKb) (by omega) (by omega) (by omega) ?_
  rw [hr0 (i + 2) (by omega)]
  refine i_V2if (pc := 582) okX11_chance inX11_chance selX11_chance q772 dL_law_582 (sub_1 hs1 _ _ _ _ _ _ _ _ _) (by exact hYI.1.1) rfl (by decide) (Nat.le_of_ble_eq_true rfl) (sX11_chance (G := G) (C := (K1, n)) (I := Ic) (P := Pc) (L := Lc)) (fun r1 I1 P1 L1 hq => ?_)
  dsimp only
  obtain ⟨q1, q2, q3⟩ := hq
  rw [mg_1, mg_1, mg_1]
  have hr1 := hsc I1 Im P1 Y q3
  refine r_aload_n (pc := 585) dL_law_585 rfl ?_
  refine r_aload_n (pc := 586) dL_law_586 rfl ?_
  refine r_iload_n (pc := 587) dL_law_587 rfl ?_
  refine r_iconst (pc := 588) dL_law_588 ?_
  refine r_iadd (pc := 589) dL_law_589 ?_
  refine r_iald (j := i + 1) (pc := 590) dL_law_590 (by exact hKb) (by omega) (by omega) (by omega) ?_
  rw [hr1 (i + 1) (by omega)]
  refine r_aload_n (pc := 591) dL_law_591 rfl ?_
  refine r_iload_n (pc := 592) dL_law_592 rfl ?_
  refine r_iconst (pc := 593) dL_law_593 ?_
  refine r_iadd (pc := 594) dL_law_594 ?_
  refine r_iald (j := i + 2) (pc := 595) dL_law_595 (by exact hKb) (by omega) (by omega) (by omega) ?_
  rw [hr1 (i + 2) (by omega)]
  refine i_V2if (pc := 596) okX12_chance inX12_chance selX12_chance q1252 dL_law_596 (sub_2 hdi hs2 _ _ _ _ _ _ _ _ _) (by exact hRf.2.1) rfl (by decide) (Nat.le_of_ble_eq_true rfl) (sX12_chance (G := G) (C := (K2, n)) (I := Im) (P := Pm) (L := Lm) (hsum := sum_in hR hSI _ _)) (fun r2 I2 P2 L2 hq => ?_)
  dsimp only
  obtain ⟨w1, w2, w3⟩ := hq
  rw [mg_2 hdi, mg_2 hdi, mg_2 hdi]
  subst w3
  have e := q1.trans (hRR.1.trans w1.symm)
  subst e
  exact r_jeq (pc := 599) 1253 dL_law_599 (by decide) (hN Y I1 P1 L1 I2 L2 (by omega) ⟨q3, hRf, by rw [q2, w2]; exact hRR.2, by omega⟩)
theorem cs_teachers {G : WG} {nm : String} {b m i L : Nat} {K1 K2 K : Nat → Option Kd} {n : Nat × Nat} {Z : Nat × Nat} {Q : Post} {sx : Nat → Int} {Is : MI} {Ps : MP} {Ls : ML} {Y : Int} {Ic : MI} {Pc : MP} {Lc : ML} {Im : MI} {Pm : MP} {Lm : ML} (hX : LX G b L K1 K2 K n sx Is) (hZ : LZ G m K1 K2 n Y Ic Pc Lc Im Pm Lm) (hi : i + 7 ≤ L) (hYi : Y ≤ 20 * (i : Int)) (hN : ∀ (Y' : Int) (Ic' : MI) (Pc' : MP) (Lc' : ML) (Im' : MI) (Lm' : ML), Y' ≤ Y + 20 → LZ G m K1 K2 n Y' Ic' Pc' Lc' Im' Pm Lm' → WL G nm b m i K1 K2 K n Z Q Is Ps Ls 1253 Ic' Pc' Lc' Im' Pm Lm') : WL G nm b m i K1 K2 K n Z Q Is Ps Ls 604 Ic Pc Lc Im Pm Lm := by
  obtain ⟨hs1, hs2, hdi, hKb, hL, hxi, hsc⟩ := hX
  obtain ⟨hYI, hRf, hR, hY0⟩ := hZ
  have hSI := YI_SI (L := Lc) hYI
  have hr0 := hsc Ic Im Pc Y hYI
  have hx1 := hxi (i + 1) (by omega)
  have hF : FI (Im (m + 1)) Y := hR.1.2.1
  have hBI : BI (Im (m + 1)) := hR.1.2.2.1
  have hRR := rel_teachers hR hSI (sx (i + 1))
  unfold WL
  refine r_aload_n (pc := 604) dL_law_604 rfl ?_
  refine r_aload_n (pc := 605) dL_law_605 rfl ?_
  refine r_iload_n (pc := 606) dL_law_606 rfl ?_
  refine r_iconst (pc := 607) dL_law_607 ?_
  refine r_iadd (pc := 608) dL_law_608 ?_
  refine r_iald (j := i + 1) (pc := 609) dL_law_609 (by exact hKb) (by omega) (by omega) (by omega) ?_
  rw [hr0 (i + 1) (by omega)]
  refine i_V1if (pc := 610) okX11_teachers inX11_teachers selX11_teachers q795 dL_law_610 (sub_1 hs1 _ _ _ _ _ _ _ _ _) (by exact hYI.1.1) rfl (by decide) (Nat.le_of_ble_eq_true rfl) (sX11_teachers (G := G) (C := (K1, n)) (I := Ic) (P := Pc) (L := Lc)) (fun r1 I1 P1 L1 hq => ?_)
  dsimp only
  obtain ⟨q1, q2, q3⟩ := hq
  rw [mg_1, mg_1, mg_1]
  have hr1 := hsc I1 Im P1 Y q3
  refine r_aload_n (pc := 613) dL_law_613 rfl ?_
  refine r_aload_n (pc := 614) dL_law_614 rfl ?_
  refine r_iload_n (pc := 615) dL_law_615 rfl ?_
  refine r_iconst (pc := 616) dL_law_616 ?_
  refine r_iadd (pc := 617) dL_law_617 ?_
  refine r_iald (j := i + 1) (pc := 618) dL_law_618 (by exact hKb) (by omega) (by omega) (by omega) ?_
  rw [hr1 (i + 1) (by omega)]
  refine i_V1if (pc := 619) okX12_teachers inX12_teachers selX12_teachers q1276 dL_law_619 (sub_2 hdi hs2 _ _ _ _ _ _ _ _ _) (by exact hRf.2.1) rfl (by decide) (Nat.le_of_ble_eq_true rfl) (sX12_teachers (G := G) (C := (K2, n)) (I := Im) (P := Pm) (L := Lm)) (fun r2 I2 P2 L2 hq => ?_)
  dsimp only
  obtain ⟨w1, w2, w3⟩ := hq
  rw [mg_2 hdi, mg_2 hdi, mg_2 hdi]
  subst w3
  have e := q1.trans (hRR.1.trans w1.symm)
  subst e
  exact r_jeq (pc := 622) 1253 dL_law_622 (by decide) (hN Y I1 P1 L1 I2 L2 (by omega) ⟨q3, hRf, by rw [q2, w2]; exact hRR.2, by omega⟩)
theorem cs_debt {G : WG} {nm : String} {b m i L : Nat} {K1 K2 K : Nat → Option Kd} {n : Nat × Nat} {Z : Nat × Nat} {Q : Post} {sx : Nat → Int} {Is : MI} {Ps : MP} {Ls : ML} {Y : Int} {Ic : MI} {Pc : MP} {Lc : ML} {Im : MI} {Pm : MP} {Lm : ML} (hX : LX G b L K1 K2 K n sx Is) (hZ : LZ G m K1 K2 n Y Ic Pc Lc Im Pm Lm) (hi : i + 7 ≤ L) (hYi : Y ≤ 20 * (i : Int)) (hN : ∀ (Y' : Int) (Ic' : MI) (Pc' : MP) (Lc' : ML) (Im' : MI) (Lm' : ML), Y' ≤ Y + 20 → LZ G m K1 K2 n Y' Ic' Pc' Lc' Im' Pm Lm' → WL G nm b m i K1 K2 K n Z Q Is Ps Ls 1253 Ic' Pc' Lc' Im' Pm Lm') : WL G nm b m i K1 K2 K n Z Q Is Ps Ls 627 Ic Pc Lc Im Pm Lm := by
  obtain ⟨hs1, hs2, hdi, hKb, hL, hxi, hsc⟩ := hX
  obtain ⟨hYI, hRf, hR, hY0⟩ := hZ
  have hSI := YI_SI (L := Lc) hYI
  have hr0 := hsc Ic Im Pc Y hYI
  have hx1 := hxi (i + 1) (by omega)
  have hx2 := hxi (i + 2) (by omega)
  have hx3 := hxi (i + 3) (by omega)
  have hF : FI (Im (m + 1)) Y := hR.1.2.1
  have hBI : BI (Im (m + 1)) := hR.1.2.2.1
  have hRR := rel_debt hR hSI (sx (i + 1)) (sx (i + 2)) (sx (i + 3))
  unfold WL
  refine r_aload_n (pc := 627) dL_law_627 rfl ?_
  refine r_aload_n (pc := 628) dL_law_628 rfl ?_
  refine r_iload_n (pc := 629) dL_law_629 rfl ?_
  refine r_iconst (pc := 630) dL_law_630 ?_
  refine r_iadd (pc := 631) dL_law_631 ?_
  refine r_iald (j := i + 1) (pc := 632) dL_law_632 (by exact hKb) (by omega) (by omega) (by omega) ?_
  rw [hr0 (i + 1) (by omega)]
  refine r_aload_n (pc := 633) dL_law_633 rfl ?_
  refine r_iload_n (pc := 634) dL_law_634 rfl ?_
  refine r_iconst (pc := 635) dL_law_635 ?_
  refine r_iadd (pc := 636) dL_law_636 ?_
  refine r_iald (j := i + 2) (pc := 637) dL_law_637 (by exact hKb) (by omega) (by omega) (by omega) ?_
  rw [hr0 (i + 2) (by omega)]
  refine r_aload_n (pc := 638) dL_law_638 rfl ?_
  refine r_iload_n (pc := 639) dL_law_639 rfl ?_
  refine r_iconst (pc := 640) dL_law_640 ?_
  refine r_iadd (pc := 641) dL_law_641 ?_
  refine r_iald (j := i + 3) (pc := 642) dL_law_642 (by exact hKb) (by omega) (by omega) (by omega) ?_
  rw [hr0 (i + 3) (by omega)]
  refine i_V3if (pc := 643) okX11_debt inX11_debt selX11_debt q821 dL_law_643 (sub_1 hs1 _ _ _ _ _ _ _ _ _) (by exact hYI.1.1) rfl (by decide) (Nat.le_of_ble_eq_true rfl) (sX11_debt (G := G) (C := (K1, n)) (I := Ic) (P := Pc) (L := Lc)) (fun r1 I1 P1 L1 hq => ?_)
  dsimp only
  obtain ⟨q1, q2, q3⟩ := hq
  rw [mg_1, mg_1, mg_1]
  have hr1 := hsc I1 Im P1 Y q3
  refine r_aload_n (pc := 646) dL_law_646 rfl ?_
  refine r_aload_n (pc := 647) dL_law_647 rfl ?_
  refine r_iload_n (pc := 648) dL_law_648 rfl ?_
  refine r_iconst (pc := 649) dL_law_649 ?_
  refine r_iadd (pc := 650) dL_law_650 ?_
  refine r_iald (j := i + 1) (pc := 651) dL_law_651 (by exact hKb) (by omega) (by omega) (by omega) ?_
  rw [hr1 (i + 1) (by omega)]
  refine r_aload_n (pc := 652) dL_law_652 rfl ?_
  refine r_iload_n (pc := 653) dL_law_653 rfl ?_
  refine r_iconst (pc := 654) dL_law_654 ?_
  refine r_iadd (pc := 655) dL_law_655 ?_
  refine r_iald (j := i + 2) (pc := 656) dL_law_656 (by exact hKb) (by omega) (by omega) (by omega) ?_
  rw [hr1 (i + 2) (by omega)]
  refine r_aload_n (pc := 657) dL_law_657 rfl ?_
  refine r_iload_n (pc := 658) dL_law_658 rfl ?_
  refine r_iconst (pc := 659) dL_law_659 ?_
  refine r_iadd (pc := 660) dL_law_660 ?_
  refine r_iald (j := i + 3) (pc := 661) dL_law_661 (by exact hKb) (by omega) (by omega) (by omega) ?_
  rw [hr1 (i + 3) (by omega)]
  refine i_V3if (pc := 662) okX12_debt inX12_debt selX12_debt q1284 dL_law_662 (sub_2 hdi hs2 _ _ _ _ _ _ _ _ _) (by exact hRf.2.1) rfl (by decide) (Nat.le_of_ble_eq_true rfl) (sX12_debt (G := G) (C := (K2, n)) (I := Im) (P := Pm) (L := Lm)) (fun r2 I2 P2 L2 hq => ?_)
  dsimp only
  obtain ⟨w1, w2, w3⟩ := hq
  rw [mg_2 hdi, mg_2 hdi, mg_2 hdi]
  subst w3
  have e := q1.trans (hRR.1.trans w1.symm)
  subst e
  exact r_jeq (pc := 665) 1253 dL_law_665 (by decide) (hN Y I1 P1 L1 I2 L2 (by omega) ⟨q3, hRf, by rw [q2, w2]; exact hRR.2, by omega⟩)
theorem cs_rate {G : WG} {nm : String} {b m i L : Nat} {K1 K2 K : Nat → Option Kd} {n : Nat × Nat} {Z : Nat × Nat} {Q : Post} {sx : Nat → Int} {Is : MI} {Ps : MP} {Ls : ML} {Y : Int} {Ic : MI} {Pc : MP} {Lc : ML} {Im : MI} {Pm : MP} {Lm : ML} (hX : LX G b L K1 K2 K n sx Is) (hZ : LZ G m K1 K2 n Y Ic Pc Lc Im Pm Lm) (hi : i + 7 ≤ L) (hYi : Y ≤ 20 * (i : Int)) (hN : ∀ (Y' : Int) (Ic' : MI) (Pc' : MP) (Lc' : ML) (Im' : MI) (Lm' : ML), Y' ≤ Y + 20 → LZ G m K1 K2 n Y' Ic' Pc' Lc' Im' Pm Lm' → WL G nm b m i K1 K2 K n Z Q Is Ps Ls 1253 Ic' Pc' Lc' Im' Pm Lm') : WL G nm b m i K1 K2 K n Z Q Is Ps Ls 670 Ic Pc Lc Im Pm Lm := by
  obtain ⟨hs1, hs2, hdi, hKb, hL, hxi, hsc⟩ := hX
  obtain ⟨hYI, hRf, hR, hY0⟩ := hZ
  have hSI := YI_SI (L := Lc) hYI
  have hr0 := hsc Ic Im Pc Y hYI
  have hx1 := hxi (i + 1) (by omega)
  have hF : FI (Im (m + 1)) Y := hR.1.2.1
  have hBI : BI (Im (m + 1)) := hR.1.2.2.1
  have hRR := rel_rate hR hSI (sx (i + 1))
  unfold WL
  refine r_aload_n (pc := 670) dL_law_670 rfl ?_
  refine r_aload_n (pc := 671) dL_law_671 rfl ?_
  refine r_iload_n (pc := 672) dL_law_672 rfl ?_
  refine r_iconst (pc := 673) dL_law_673 ?_
  refine r_iadd (pc := 674) dL_law_674 ?_
  refine r_iald (j := i + 1) (pc := 675) dL_law_675 (by exact hKb) (by omega) (by omega) (by omega) ?_
  rw [hr0 (i + 1) (by omega)]
  refine i_V1if (pc := 676) okX11_rate inX11_rate selX11_rate q826 dL_law_676 (sub_1 hs1 _ _ _ _ _ _ _ _ _) (by exact hYI.1.1) rfl (by decide) (Nat.le_of_ble_eq_true rfl) (sX11_rate (G := G) (C := (K1, n)) (I := Ic) (P := Pc) (L := Lc)) (fun r1 I1 P1 L1 hq => ?_)
  dsimp only
  obtain ⟨q1, q2, q3⟩ := hq
  rw [mg_1, mg_1, mg_1]
  have hr1 := hsc I1 Im P1 Y q3
  refine r_aload_n (pc := 679) dL_law_679 rfl ?_
  refine r_aload_n (pc := 680) dL_law_680 rfl ?_
  refine r_iload_n (pc := 681) dL_law_681 rfl ?_
  refine r_iconst (pc := 682) dL_law_682 ?_
  refine r_iadd (pc := 683) dL_law_683 ?_
  refine r_iald (j := i + 1) (pc := 684) dL_law_684 (by exact hKb) (by omega) (by omega) (by omega) ?_
  rw [hr1 (i + 1) (by omega)]
  refine i_V1if (pc := 685) okX12_rate inX12_rate selX12_rate q1292 dL_law_685 (sub_2 hdi hs2 _ _ _ _ _ _ _ _ _) (by exact hRf.2.1) rfl (by decide) (Nat.le_of_ble_eq_true rfl) (sX12_rate (G := G) (C := (K2, n)) (I := Im) (P := Pm) (L := Lm)) (fun r2 I2 P2 L2 hq => ?_)
  dsimp only
  obtain ⟨w1, w2, w3⟩ := hq
  rw [mg_2 hdi, mg_2 hdi, mg_2 hdi]
  subst w3
  have e := q1.trans (hRR.1.trans w1.symm)
  subst e
  exact r_jeq (pc := 688) 1253 dL_law_688 (by decide) (hN Y I1 P1 L1 I2 L2 (by omega) ⟨q3, hRf, by rw [q2, w2]; exact hRR.2, by omega⟩)
theorem cs_net {G : WG} {nm : String} {b m i L : Nat} {K1 K2 K : Nat → Option Kd} {n : Nat × Nat} {Z : Nat × Nat} {Q : Post} {sx : Nat → Int} {Is : MI} {Ps : MP} {Ls : ML} {Y : Int} {Ic : MI} {Pc : MP} {Lc : ML} {Im : MI} {Pm : MP} {Lm : ML} (hX : LX G b L K1 K2 K n sx Is) (hZ : LZ G m K1 K2 n Y Ic Pc Lc Im Pm Lm) (hi : i + 7 ≤ L) (hYi : Y ≤ 20 * (i : Int)) (hN : ∀ (Y' : Int) (Ic' : MI) (Pc' : MP) (Lc' : ML) (Im' : MI) (Lm' : ML), Y' ≤ Y + 20 → LZ G m K1 K2 n Y' Ic' Pc' Lc' Im' Pm Lm' → WL G nm b m i K1 K2 K n Z Q Is Ps Ls 1253 Ic' Pc' Lc' Im' Pm Lm') : WL G nm b m i K1 K2 K n Z Q Is Ps Ls 693 Ic Pc Lc Im Pm Lm := by
  obtain ⟨hs1, hs2, hdi, hKb, hL, hxi, hsc⟩ := hX
  obtain ⟨hYI, hRf, hR, hY0⟩ := hZ
  have hSI := YI_SI (L := Lc) hYI
  have hr0 := hsc Ic Im Pc Y hYI
  have hx1 := hxi (i + 1) (by omega)
  have hF : FI (Im (m + 1)) Y := hR.1.2.1
  have hBI : BI (Im (m + 1)) := hR.1.2.2.1
  have hRR := rel_net hR hSI (sx (i + 1))
  unfold WL
  refine r_aload_n (pc := 693) dL_law_693 rfl ?_
  refine r_aload_n (pc := 694) dL_law_694 rfl ?_
  refine r_iload_n (pc := 695) dL_law_695 rfl ?_
  refine r_iconst (pc := 696) dL_law_696 ?_
  refine r_iadd (pc := 697) dL_law_697 ?_
  refine r_iald (j := i + 1) (pc := 698) dL_law_698 (by exact hKb) (by omega) (by omega) (by omega) ?_
  rw [hr0 (i + 1) (by omega)]
  refine i_V1if (pc := 699) okX11_net inX11_net selX11_net q830 dL_law_699 (sub_1 hs1 _ _ _ _ _ _ _ _ _) (by exact hYI.1.1) rfl (by decide) (Nat.le_of_ble_eq_true rfl) (sX11_net (G := G) (C := (K1, n)) (I := Ic) (P := Pc) (L := Lc)) (fun r1 I1 P1 L1 hq => ?_)
  dsimp only
  obtain ⟨q1, q2, q3⟩ := hq
  rw [mg_1, mg_1, mg_1]
  have hr1 := hsc I1 Im P1 Y q3
  refine r_aload_n (pc := 702) dL_law_702 rfl ?_
  refine r_aload_n (pc := 703) dL_law_703 rfl ?_
  refine r_iload_n (pc := 704) dL_law_704 rfl ?_
  refine r_iconst (pc := 705) dL_law_705 ?_
  refine r_iadd (pc := 706) dL_law_706 ?_
  refine r_iald (j := i + 1) (pc := 707) dL_law_707 (by exact hKb) (by omega) (by omega) (by omega) ?_
  rw [hr1 (i + 1) (by omega)]
  refine i_V1if (pc := 708) okX12_net inX12_net selX12_net q1297 dL_law_708 (sub_2 hdi hs2 _ _ _ _ _ _ _ _ _) (by exact hRf.2.1) rfl (by decide) (Nat.le_of_ble_eq_true rfl) (sX12_net (G := G) (C := (K2, n)) (I := Im) (P := Pm) (L := Lm)) (fun r2 I2 P2 L2 hq => ?_)
  dsimp only
  obtain ⟨w1, w2, w3⟩ := hq
  rw [mg_2 hdi, mg_2 hdi, mg_2 hdi]
  subst w3
  have e := q1.trans (hRR.1.trans w1.symm)
  subst e
  exact r_jeq (pc := 711) 1253 dL_law_711 (by decide) (hN Y I1 P1 L1 I2 L2 (by omega) ⟨q3, hRf, by rw [q2, w2]; exact hRR.2, by omega⟩)
theorem cs_cleared {G : WG} {nm : String} {b m i L : Nat} {K1 K2 K : Nat → Option Kd} {n : Nat × Nat} {Z : Nat × Nat} {Q : Post} {sx : Nat → Int} {Is : MI} {Ps : MP} {Ls : ML} {Y : Int} {Ic : MI} {Pc : MP} {Lc : ML} {Im : MI} {Pm : MP} {Lm : ML} (hX : LX G b L K1 K2 K n sx Is) (hZ : LZ G m K1 K2 n Y Ic Pc Lc Im Pm Lm) (hi : i + 7 ≤ L) (hYi : Y ≤ 20 * (i : Int)) (hN : ∀ (Y' : Int) (Ic' : MI) (Pc' : MP) (Lc' : ML) (Im' : MI) (Lm' : ML), Y' ≤ Y + 20 → LZ G m K1 K2 n Y' Ic' Pc' Lc' Im' Pm Lm' → WL G nm b m i K1 K2 K n Z Q Is Ps Ls 1253 Ic' Pc' Lc' Im' Pm Lm') : WL G nm b m i K1 K2 K n Z Q Is Ps Ls 716 Ic Pc Lc Im Pm Lm := by
  obtain ⟨hs1, hs2, hdi, hKb, hL, hxi, hsc⟩ := hX
  obtain ⟨hYI, hRf, hR, hY0⟩ := hZ
  have hSI := YI_SI (L := Lc) hYI
  have hr0 := hsc Ic Im Pc Y hYI
  have hF : FI (Im (m + 1)) Y := hR.1.2.1
  have hBI : BI (Im (m + 1)) := hR.1.2.2.1
  have hRR := rel_cleared hR hSI
  unfold WL
  refine r_aload_n (pc := 716) dL_law_716 rfl ?_
  refine i_V0if (pc := 717) okX11_cleared inX11_cleared selX11_cleared q844 dL_law_717 (sub_1 hs1 _ _ _ _ _ _ _ _ _) (by exact hYI.1.1) rfl (by decide) (Nat.le_of_ble_eq_true rfl) (sX11_cleared (G := G) (C := (K1, n)) (I := Ic) (P := Pc) (L := Lc)) (fun r1 I1 P1 L1 hq => ?_)
  dsimp only
  obtain ⟨q1, q2, q3⟩ := hq
  rw [mg_1, mg_1, mg_1]
  have hr1 := hsc I1 Im P1 Y q3
  refine r_aload_n (pc := 720) dL_law_720 rfl ?_
  refine i_V0if (pc := 721) okX12_cleared inX12_cleared selX12_cleared q1306 dL_law_721 (sub_2 hdi hs2 _ _ _ _ _ _ _ _ _) (by exact hRf.2.1) rfl (by decide) (Nat.le_of_ble_eq_true rfl) (sX12_cleared (G := G) (C := (K2, n)) (I := Im) (P := Pm) (L := Lm)) (fun r2 I2 P2 L2 hq => ?_)
  dsimp only
  obtain ⟨w1, w2, w3⟩ := hq
  rw [mg_2 hdi, mg_2 hdi, mg_2 hdi]
  subst w3
  have e := q1.trans (hRR.1.trans w1.symm)
  subst e
  exact r_jeq (pc := 724) 1253 dL_law_724 (by decide) (hN Y I1 P1 L1 I2 L2 (by omega) ⟨q3, hRf, by rw [q2, w2]; exact hRR.2, by omega⟩)
theorem cs_report {G : WG} {nm : String} {b m i L : Nat} {K1 K2 K : Nat → Option Kd} {n : Nat × Nat} {Z : Nat × Nat} {Q : Post} {sx : Nat → Int} {Is : MI} {Ps : MP} {Ls : ML} {Y : Int} {Ic : MI} {Pc : MP} {Lc : ML} {Im : MI} {Pm : MP} {Lm : ML} (hX : LX G b L K1 K2 K n sx Is) (hZ : LZ G m K1 K2 n Y Ic Pc Lc Im Pm Lm) (hi : i + 7 ≤ L) (hYi : Y ≤ 20 * (i : Int)) (hN : ∀ (Y' : Int) (Ic' : MI) (Pc' : MP) (Lc' : ML) (Im' : MI) (Lm' : ML), Y' ≤ Y + 20 → LZ G m K1 K2 n Y' Ic' Pc' Lc' Im' Pm Lm' → WL G nm b m i K1 K2 K n Z Q Is Ps Ls 1253 Ic' Pc' Lc' Im' Pm Lm') : WL G nm b m i K1 K2 K n Z Q Is Ps Ls 729 Ic Pc Lc Im Pm Lm := by
  obtain ⟨hs1, hs2, hdi, hKb, hL, hxi, hsc⟩ := hX
  obtain ⟨hYI, hRf, hR, hY0⟩ := hZ
  have hSI := YI_SI (L := Lc) hYI
  have hr0 := hsc Ic Im Pc Y hYI
  have hx1 := hxi (i + 1) (by omega)
  have hx2 := hxi (i + 2) (by omega)
  have hx3 := hxi (i + 3) (by omega)
  have hF : FI (Im (m + 1)) Y := hR.1.2.1
  have hBI : BI (Im (m + 1)) := hR.1.2.2.1
  have hRR := rel_report hR hSI (sx (i + 1)) (sx (i + 2)) (sx (i + 3))
  unfold WL
  refine r_aload_n (pc := 729) dL_law_729 rfl ?_
  refine r_aload_n (pc := 730) dL_law_730 rfl ?_
  refine r_iload_n (pc := 731) dL_law_731 rfl ?_
  refine r_iconst (pc := 732) dL_law_732 ?_
  refine r_iadd (pc := 733) dL_law_733 ?_
  refine r_iald (j := i + 1) (pc := 734) dL_law_734 (by exact hKb) (by omega) (by omega) (by omega) ?_
  rw [hr0 (i + 1) (by omega)]
  refine r_aload_n (pc := 735) dL_law_735 rfl ?_
  refine r_iload_n (pc := 736) dL_law_736 rfl ?_
  refine r_iconst (pc := 737) dL_law_737 ?_
  refine r_iadd (pc := 738) dL_law_738 ?_
  refine r_iald (j := i + 2) (pc := 739) dL_law_739 (by exact hKb) (by omega) (by omega) (by omega) ?_
  rw [hr0 (i + 2) (by omega)]
  refine r_aload_n (pc := 740) dL_law_740 rfl ?_
  refine r_iload_n (pc := 741) dL_law_741 rfl ?_
  refine r_iconst (pc := 742) dL_law_742 ?_
  refine r_iadd (pc := 743) dL_law_743 ?_
  refine r_iald (j := i + 3) (pc := 744) dL_law_744 (by exact hKb) (by omega) (by omega) (by omega) ?_
  rw [hr0 (i + 3) (by omega)]
  refine i_V3if (pc := 745) okX11_report inX11_report selX11_report q863 dL_law_745 (sub_1 hs1 _ _ _ _ _ _ _ _ _) (by exact hYI.1.1) rfl (by decide) (Nat.le_of_ble_eq_true rfl) (sX11_report (G := G) (C := (K1, n)) (I := Ic) (P := Pc) (L := Lc)) (fun r1 I1 P1 L1 hq => ?_)
  dsimp only
  obtain ⟨q1, q2, q3⟩ := hq
  rw [mg_1, mg_1, mg_1]
  have hr1 := hsc I1 Im P1 Y q3
  refine r_aload_n (pc := 748) dL_law_748 rfl ?_
  refine r_aload_n (pc := 749) dL_law_749 rfl ?_
  refine r_iload_n (pc := 750) dL_law_750 rfl ?_
  refine r_iconst (pc := 751) dL_law_751 ?_
  refine r_iadd (pc := 752) dL_law_752 ?_
  refine r_iald (j := i + 1) (pc := 753) dL_law_753 (by exact hKb) (by omega) (by omega) (by omega) ?_
  rw [hr1 (i + 1) (by omega)]
  refine r_aload_n (pc := 754) dL_law_754 rfl ?_
  refine r_iload_n (pc := 755) dL_law_755 rfl ?_
  refine r_iconst (pc := 756) dL_law_756 ?_
  refine r_iadd (pc := 757) dL_law_757 ?_
  refine r_iald (j := i + 2) (pc := 758) dL_law_758 (by exact hKb) (by omega) (by omega) (by omega) ?_
  rw [hr1 (i + 2) (by omega)]
  refine r_aload_n (pc := 759) dL_law_759 rfl ?_
  refine r_iload_n (pc := 760) dL_law_760 rfl ?_
  refine r_iconst (pc := 761) dL_law_761 ?_
  refine r_iadd (pc := 762) dL_law_762 ?_
  refine r_iald (j := i + 3) (pc := 763) dL_law_763 (by exact hKb) (by omega) (by omega) (by omega) ?_
  rw [hr1 (i + 3) (by omega)]
  refine i_V3if (pc := 764) okX12_report inX12_report selX12_report q1315 dL_law_764 (sub_2 hdi hs2 _ _ _ _ _ _ _ _ _) (by exact hRf.2.1) rfl (by decide) (Nat.le_of_ble_eq_true rfl) (sX12_report (G := G) (C := (K2, n)) (I := Im) (P := Pm) (L := Lm)) (fun r2 I2 P2 L2 hq => ?_)
  dsimp only
  obtain ⟨w1, w2, w3⟩ := hq
  rw [mg_2 hdi, mg_2 hdi, mg_2 hdi]
  subst w3
  have e := q1.trans (hRR.1.trans w1.symm)
  subst e
  exact r_jeq (pc := 767) 1253 dL_law_767 (by decide) (hN Y I1 P1 L1 I2 L2 (by omega) ⟨q3, hRf, by rw [q2, w2]; exact hRR.2, by omega⟩)
theorem cs_liars {G : WG} {nm : String} {b m i L : Nat} {K1 K2 K : Nat → Option Kd} {n : Nat × Nat} {Z : Nat × Nat} {Q : Post} {sx : Nat → Int} {Is : MI} {Ps : MP} {Ls : ML} {Y : Int} {Ic : MI} {Pc : MP} {Lc : ML} {Im : MI} {Pm : MP} {Lm : ML} (hX : LX G b L K1 K2 K n sx Is) (hZ : LZ G m K1 K2 n Y Ic Pc Lc Im Pm Lm) (hi : i + 7 ≤ L) (hYi : Y ≤ 20 * (i : Int)) (hN : ∀ (Y' : Int) (Ic' : MI) (Pc' : MP) (Lc' : ML) (Im' : MI) (Lm' : ML), Y' ≤ Y + 20 → LZ G m K1 K2 n Y' Ic' Pc' Lc' Im' Pm Lm' → WL G nm b m i K1 K2 K n Z Q Is Ps Ls 1253 Ic' Pc' Lc' Im' Pm Lm') : WL G nm b m i K1 K2 K n Z Q Is Ps Ls 772 Ic Pc Lc Im Pm Lm := by
  obtain ⟨hs1, hs2, hdi, hKb, hL, hxi, hsc⟩ := hX
  obtain ⟨hYI, hRf, hR, hY0⟩ := hZ
  have hSI := YI_SI (L := Lc) hYI
  have hr0 := hsc Ic Im Pc Y hYI
  have hx1 := hxi (i + 1) (by omega)
  have hF : FI (Im (m + 1)) Y := hR.1.2.1
  have hBI : BI (Im (m + 1)) := hR.1.2.2.1
  have hRR := rel_liars hR hSI (sx (i + 1))
  unfold WL
  refine r_aload_n (pc := 772) dL_law_772 rfl ?_
  refine r_aload_n (pc := 773) dL_law_773 rfl ?_
  refine r_iload_n (pc := 774) dL_law_774 rfl ?_
  refine r_iconst (pc := 775) dL_law_775 ?_
  refine r_iadd (pc := 776) dL_law_776 ?_
  refine r_iald (j := i + 1) (pc := 777) dL_law_777 (by exact hKb) (by omega) (by omega) (by omega) ?_
  rw [hr0 (i + 1) (by omega)]
  refine i_V1if (pc := 778) okX11_liars inX11_liars selX11_liars q871 dL_law_778 (sub_1 hs1 _ _ _ _ _ _ _ _ _) (by exact hYI.1.1) rfl (by decide) (Nat.le_of_ble_eq_true rfl) (sX11_liars (G := G) (C := (K1, n)) (I := Ic) (P := Pc) (L := Lc)) (fun r1 I1 P1 L1 hq => ?_)
  dsimp only
  obtain ⟨q1, q2, q3⟩ := hq
  rw [mg_1, mg_1, mg_1]
  have hr1 := hsc I1 Im P1 Y q3
  refine r_aload_n (pc := 781) dL_law_781 rfl ?_
  refine r_aload_n (pc := 782) dL_law_782 rfl ?_
  refine r_iload_n (pc := 783) dL_law_783 rfl ?_
  refine r_iconst (pc := 784) dL_law_784 ?_
  refine r_iadd (pc := 785) dL_law_785 ?_
  refine r_iald (j := i + 1) (pc := 786) dL_law_786 (by exact hKb) (by omega) (by omega) (by omega) ?_
  rw [hr1 (i + 1) (by omega)]
  refine i_V1if (pc := 787) okX12_liars inX12_liars selX12_liars q1320 dL_law_787 (sub_2 hdi hs2 _ _ _ _ _ _ _ _ _) (by exact hRf.2.1) rfl (by decide) (Nat.le_of_ble_eq_true rfl) (sX12_liars (G := G) (C := (K2, n)) (I := Im) (P := Pm) (L := Lm)) (fun r2 I2 P2 L2 hq => ?_)
  dsimp only
  obtain ⟨w1, w2, w3⟩ := hq
  rw [mg_2 hdi, mg_2 hdi, mg_2 hdi]
  subst w3
  have e := q1.trans (hRR.1.trans w1.symm)
  subst e
  exact r_jeq (pc := 790) 1253 dL_law_790 (by decide) (hN Y I1 P1 L1 I2 L2 (by omega) ⟨q3, hRf, by rw [q2, w2]; exact hRR.2, by omega⟩)
theorem cs_none {G : WG} {nm : String} {b m i L : Nat} {K1 K2 K : Nat → Option Kd} {n : Nat × Nat} {Z : Nat × Nat} {Q : Post} {sx : Nat → Int} {Is : MI} {Ps : MP} {Ls : ML} {Y : Int} {Ic : MI} {Pc : MP} {Lc : ML} {Im : MI} {Pm : MP} {Lm : ML} (hX : LX G b L K1 K2 K n sx Is) (hZ : LZ G m K1 K2 n Y Ic Pc Lc Im Pm Lm) (hi : i + 7 ≤ L) (hYi : Y ≤ 20 * (i : Int)) (hN : ∀ (Y' : Int) (Ic' : MI) (Pc' : MP) (Lc' : ML) (Im' : MI) (Lm' : ML), Y' ≤ Y + 20 → LZ G m K1 K2 n Y' Ic' Pc' Lc' Im' Pm Lm' → WL G nm b m i K1 K2 K n Z Q Is Ps Ls 1253 Ic' Pc' Lc' Im' Pm Lm') : WL G nm b m i K1 K2 K n Z Q Is Ps Ls 795 Ic Pc Lc Im Pm Lm := by
  obtain ⟨hs1, hs2, hdi, hKb, hL, hxi, hsc⟩ := hX
  obtain ⟨hYI, hRf, hR, hY0⟩ := hZ
  have hSI := YI_SI (L := Lc) hYI
  have hr0 := hsc Ic Im Pc Y hYI
  have hx1 := hxi (i + 1) (by omega)
  have hF : FI (Im (m + 1)) Y := hR.1.2.1
  have hBI : BI (Im (m + 1)) := hR.1.2.2.1
  have hRR := rel_none hR hSI (sx (i + 1))
  unfold WL
  refine r_aload_n (pc := 795) dL_law_795 rfl ?_
  refine r_aload_n (pc := 796) dL_law_796 rfl ?_
  refine r_iload_n (pc := 797) dL_law_797 rfl ?_
  refine r_iconst (pc := 798) dL_law_798 ?_
  refine r_iadd (pc := 799) dL_law_799 ?_
  refine r_iald (j := i + 1) (pc := 800) dL_law_800 (by exact hKb) (by omega) (by omega) (by omega) ?_
  rw [hr0 (i + 1) (by omega)]
  refine i_V1if (pc := 801) okX11_none inX11_none selX11_none q896 dL_law_801 (sub_1 hs1 _ _ _ _ _ _ _ _ _) (by exact hYI.1.1) rfl (by decide) (Nat.le_of_ble_eq_true rfl) (sX11_none (G := G) (C := (K1, n)) (I := Ic) (P := Pc) (L := Lc)) (fun r1 I1 P1 L1 hq => ?_)
  dsimp only
  obtain ⟨q1, q2, q3⟩ := hq
  rw [mg_1, mg_1, mg_1]
  have hr1 := hsc I1 Im P1 Y q3
  refine r_aload_n (pc := 804) dL_law_804 rfl ?_
  refine r_aload_n (pc := 805) dL_law_805 rfl ?_
  refine r_iload_n (pc := 806) dL_law_806 rfl ?_
  refine r_iconst (pc := 807) dL_law_807 ?_
  refine r_iadd (pc := 808) dL_law_808 ?_
  refine r_iald (j := i + 1) (pc := 809) dL_law_809 (by exact hKb) (by omega) (by omega) (by omega) ?_
  rw [hr1 (i + 1) (by omega)]
  refine i_V1if (pc := 810) okX12_none inX12_none selX12_none q1328 dL_law_810 (sub_2 hdi hs2 _ _ _ _ _ _ _ _ _) (by exact hRf.2.1) rfl (by decide) (Nat.le_of_ble_eq_true rfl) (sX12_none (G := G) (C := (K2, n)) (I := Im) (P := Pm) (L := Lm)) (fun r2 I2 P2 L2 hq => ?_)
  dsimp only
  obtain ⟨w1, w2, w3⟩ := hq
  rw [mg_2 hdi, mg_2 hdi, mg_2 hdi]
  subst w3
  have e := q1.trans (hRR.1.trans w1.symm)
  subst e
  exact r_jeq (pc := 813) 1253 dL_law_813 (by decide) (hN Y I1 P1 L1 I2 L2 (by omega) ⟨q3, hRf, by rw [q2, w2]; exact hRR.2, by omega⟩)
theorem cs_lots {G : WG} {nm : String} {b m i L : Nat} {K1 K2 K : Nat → Option Kd} {n : Nat × Nat} {Z : Nat × Nat} {Q : Post} {sx : Nat → Int} {Is : MI} {Ps : MP} {Ls : ML} {Y : Int} {Ic : MI} {Pc : MP} {Lc : ML} {Im : MI} {Pm : MP} {Lm : ML} (hX : LX G b L K1 K2 K n sx Is) (hZ : LZ G m K1 K2 n Y Ic Pc Lc Im Pm Lm) (hi : i + 7 ≤ L) (hYi : Y ≤ 20 * (i : Int)) (hN : ∀ (Y' : Int) (Ic' : MI) (Pc' : MP) (Lc' : ML) (Im' : MI) (Lm' : ML), Y' ≤ Y + 20 → LZ G m K1 K2 n Y' Ic' Pc' Lc' Im' Pm Lm' → WL G nm b m i K1 K2 K n Z Q Is Ps Ls 1253 Ic' Pc' Lc' Im' Pm Lm') : WL G nm b m i K1 K2 K n Z Q Is Ps Ls 818 Ic Pc Lc Im Pm Lm := by
  obtain ⟨hs1, hs2, hdi, hKb, hL, hxi, hsc⟩ := hX
  obtain ⟨hYI, hRf, hR, hY0⟩ := hZ
  have hSI := YI_SI (L := Lc) hYI
  have hr0 := hsc Ic Im Pc Y hYI
  have hx1 := hxi (i + 1) (by omega)
  have hx2 := hxi (i + 2) (by omega)
  have hF : FI (Im (m + 1)) Y := hR.1.2.1
  have hBI : BI (Im (m + 1)) := hR.1.2.2.1
  have hRR := rel_lots hR hSI (sx (i + 1)) (sx (i + 2))
  unfold WL
  refine r_aload_n (pc := 818) dL_law_818 rfl ?_
  refine r_aload_n (pc := 819) dL_law_819 rfl ?_
  refine r_iload_n (pc := 820) dL_law_820 rfl ?_
  refine r_iconst (pc := 821) dL_law_821 ?_
  refine r_iadd (pc := 822) dL_law_822 ?_
  refine r_iald (j := i + 1) (pc := 823) dL_law_823 (by exact hKb) (by omega) (by omega) (by omega) ?_
  rw [hr0 (i + 1) (by omega)]
  refine r_aload_n (pc := 824) dL_law_824 rfl ?_
  refine r_iload_n (pc := 825) dL_law_825 rfl ?_
  refine r_iconst (pc := 826) dL_law_826 ?_
  refine r_iadd (pc := 827) dL_law_827 ?_
  refine r_iald (j := i + 2) (pc := 828) dL_law_828 (by exact hKb) (by omega) (by omega) (by omega) ?_
  rw [hr0 (i + 2) (by omega)]
  refine i_V2if (pc := 829) okX11_lots inX11_lots selX11_lots q908 dL_law_829 (sub_1 hs1 _ _ _ _ _ _ _ _ _) (by exact hYI.1.1) rfl (by decide) (Nat.le_of_ble_eq_true rfl) (sX11_lots (G := G) (C := (K1, n)) (I := Ic) (P := Pc) (L := Lc)) (fun r1 I1 P1 L1 hq => ?_)
  dsimp only
  obtain ⟨q1, q2, q3⟩ := hq
  rw [mg_1, mg_1, mg_1]
  have hr1 := hsc I1 Im P1 Y q3
  refine r_aload_n (pc := 832) dL_law_832 rfl ?_
  refine r_aload_n (pc := 833) dL_law_833 rfl ?_
  refine r_iload_n (pc := 834) dL_law_834 rfl ?_
  refine r_iconst (pc := 835) dL_law_835 ?_
  refine r_iadd (pc := 836) dL_law_836 ?_
  refine r_iald (j := i + 1) (pc := 837) dL_law_837 (by exact hKb) (by omega) (by omega) (by omega) ?_
  rw [hr1 (i + 1) (by omega)]
  refine r_aload_n (pc := 838) dL_law_838 rfl ?_
  refine r_iload_n (pc := 839) dL_law_839 rfl ?_
  refine r_iconst (pc := 840) dL_law_840 ?_
  refine r_iadd (pc := 841) dL_law_841 ?_
  refine r_iald (j := i + 2) (pc := 842) dL_law_842 (by exact hKb) (by omega) (by omega) (by omega) ?_
  rw [hr1 (i + 2) (by omega)]
  refine i_V2if (pc := 843) okX12_lots inX12_lots selX12_lots q1332 dL_law_843 (sub_2 hdi hs2 _ _ _ _ _ _ _ _ _) (by exact hRf.2.1) rfl (by decide) (Nat.le_of_ble_eq_true rfl) (sX12_lots (G := G) (C := (K2, n)) (I := Im) (P := Pm) (L := Lm)) (fun r2 I2 P2 L2 hq => ?_)
  dsimp only
  obtain ⟨w1, w2, w3⟩ := hq
  rw [mg_2 hdi, mg_2 hdi, mg_2 hdi]
  subst w3
  have e := q1.trans (hRR.1.trans w1.symm)
  subst e
  exact r_jeq (pc := 846) 1253 dL_law_846 (by decide) (hN Y I1 P1 L1 I2 L2 (by omega) ⟨q3, hRf, by rw [q2, w2]; exact hRR.2, by omega⟩)

