/-! the law's loop -/
theorem law_loop {G : WG} {nm : String} {b m L : Nat} {K1 K2 K : Nat → Option Kd} {n : Nat × Nat} {Z : Nat × Nat} {Q : Post} {sx : Nat → Int} {Is : MI} {Ps : MP} {Ls : ML} (hX : LX G b L K1 K2 K n sx Is) (hQ : ∀ C I P L, Q (some (.int (zI 1))) C I P L) : ∀ (d i : Nat) (Y : Int) (Ic : MI) (Pc : MP) (Lc : ML) (Im : MI) (Pm : MP) (Lm : ML), i ≤ L → L ≤ i + d → Y ≤ 20 * (i : Int) → LZ G m K1 K2 n Y Ic Pc Lc Im Pm Lm → WL G nm b m i K1 K2 K n Z Q Is Ps Ls 18 Ic Pc Lc Im Pm Lm := by
  have hKb : K b = some (.inr (0, L)) := hX.2.2.2.1
  have hL : L ≤ 3584 := hX.2.2.2.2.1
  intro d
  induction d with
  | zero =>
    intro i Y Ic Pc Lc Im Pm Lm h1 h2 hYi hZ
    unfold WL
    refine r_iload_n (pc := 18) dL_law_18 rfl ?_
    refine r_aload_n (pc := 19) dL_law_19 rfl ?_
    refine r_alen (pc := 20) dL_law_20 (by exact hKb) ?_
    refine r_bipush (pc := 21) dL_law_21 (by decide) ?_
    refine r_isub (pc := 23) dL_law_23 ?_
    refine r_icmp_gt (pc := 24) 1259 dL_law_24 (by decide) (by omega) (by omega) (fun h24 => ?_) (fun h24 => ?_)
    · skip
      refine r_iconst (pc := 1259) dL_law_1259 ?_
      exact r_iret (pc := 1260) dL_law_1260 rfl rfl (hQ _ _ _ _)
    · exact absurd h24 (by omega)
  | succ d ih =>
    intro i Y Ic Pc Lc Im Pm Lm h1 h2 hYi hZ
    have hr0 := hX.2.2.2.2.2.2 Ic Im Pc Y hZ.1
    unfold WL
    refine r_iload_n (pc := 18) dL_law_18 rfl ?_
    refine r_aload_n (pc := 19) dL_law_19 rfl ?_
    refine r_alen (pc := 20) dL_law_20 (by exact hKb) ?_
    refine r_bipush (pc := 21) dL_law_21 (by decide) ?_
    refine r_isub (pc := 23) dL_law_23 ?_
    refine r_icmp_gt (pc := 24) 1259 dL_law_24 (by decide) (by omega) (by omega) (fun h24 => ?_) (fun h24 => ?_)
    · skip
      refine r_iconst (pc := 1259) dL_law_1259 ?_
      exact r_iret (pc := 1260) dL_law_1260 rfl rfl (hQ _ _ _ _)
    · skip
      refine r_aload_n (pc := 27) dL_law_27 rfl ?_
      refine r_iload_n (pc := 28) dL_law_28 rfl ?_
      refine r_iald (j := i) (pc := 29) dL_law_29 (by exact hKb) (by omega) (by omega) (by omega) ?_
      rw [hr0 i (by omega)]
      refine r_bipush (pc := 30) dL_law_30 (by decide) ?_
      refine r_iand (pc := 32) dL_law_32 ?_
      have hi7 : i + 7 ≤ L := by omega
      have hN : ∀ (Y' : Int) (Ic' : MI) (Pc' : MP) (Lc' : ML) (Im' : MI) (Lm' : ML), Y' ≤ Y + 20 → LZ G m K1 K2 n Y' Ic' Pc' Lc' Im' Pm Lm' → WL G nm b m i K1 K2 K n Z Q Is Ps Ls 1253 Ic' Pc' Lc' Im' Pm Lm' := by
        intro Y' Ic' Pc' Lc' Im' Lm' hY' hZ'
        have hh := ih (i + 7) Y' Ic' Pc' Lc' Im' Pm Lm' (by omega) (by omega) (by omega) hZ'
        unfold WL at hh ⊢
        refine r_iinc (pc := 1253) dL_law_1253 rfl ?_
        refine r_goto (pc := 1256) 18 dL_law_1256 (by decide) ?_
        exact hh
      have hz : iR (b_and (sx i) 63) := iR_self _
      generalize b_and (sx i) 63 = z at hz ⊢
      by_cases hc : z < 0 ∨ 36 < z
      · exact r_tsOut (pc := 33) 1253 dL_law_33 hz hc (by decide) (hN Y Ic Pc Lc Im Lm (by omega) hZ)
      · obtain ⟨k, rfl⟩ : ∃ k : Nat, z = (k : Int) := ⟨z.toNat, by omega⟩
        have hk : k < 37 := by omega
        clear hc
        match k, hk, hz with
        | 0, _, hz => exact r_tsIn (pc := 33) 196 dL_law_33 hz (by omega) (by omega) rfl (by decide) (cs_year hX hZ hi7 hYi hN)
        | 1, _, hz => exact r_tsIn (pc := 33) 219 dL_law_33 hz (by omega) (by omega) rfl (by decide) (cs_store hX hZ hi7 hYi hN)
        | 2, _, hz => exact r_tsIn (pc := 33) 252 dL_law_33 hz (by omega) (by omega) rfl (by decide) (cs_family hX hZ hi7 hYi hN)
        | 3, _, hz => exact r_tsIn (pc := 33) 295 dL_law_33 hz (by omega) (by omega) rfl (by decide) (cs_job hX hZ hi7 hYi hN)
        | 4, _, hz => exact r_tsIn (pc := 33) 328 dL_law_33 hz (by omega) (by omega) rfl (by decide) (cs_type hX hZ hi7 hYi hN)
        | 5, _, hz => exact r_tsIn (pc := 33) 351 dL_law_33 hz (by omega) (by omega) rfl (by decide) (cs_clear hX hZ hi7 hYi hN)
        | 6, _, hz => exact r_tsIn (pc := 33) 364 dL_law_33 hz (by omega) (by omega) rfl (by decide) (cs_read hX hZ hi7 hYi hN)
        | 7, _, hz => exact r_tsIn (pc := 33) 377 dL_law_33 hz (by omega) (by omega) rfl (by decide) (cs_pass hX hZ hi7 hYi hN)
        | 8, _, hz => exact r_tsIn (pc := 33) 400 dL_law_33 hz (by omega) (by omega) rfl (by decide) (cs_undo hX hZ hi7 hYi hN)
        | 9, _, hz => exact r_tsIn (pc := 33) 413 dL_law_33 hz (by omega) (by omega) rfl (by decide) (cs_about hX hZ hi7 hYi hN)
        | 10, _, hz => exact r_tsIn (pc := 33) 446 dL_law_33 hz (by omega) (by omega) rfl (by decide) (cs_eats hX hZ hi7 hYi hN)
        | 11, _, hz => exact r_tsIn (pc := 33) 479 dL_law_33 hz (by omega) (by omega) rfl (by decide) (cs_fields hX hZ hi7 hYi hN)
        | 12, _, hz => exact r_tsIn (pc := 33) 492 dL_law_33 hz (by omega) (by omega) rfl (by decide) (cs_plan hX hZ hi7 hYi hN)
        | 13, _, hz => exact r_tsIn (pc := 33) 525 dL_law_33 hz (by omega) (by omega) rfl (by decide) (cs_want hX hZ hi7 hYi hN)
        | 14, _, hz => exact r_tsIn (pc := 33) 548 dL_law_33 hz (by omega) (by omega) rfl (by decide) (cs_held hX hZ hi7 hYi hN)
        | 15, _, hz => exact r_tsIn (pc := 33) 571 dL_law_33 hz (by omega) (by omega) rfl (by decide) (cs_chance hX hZ hi7 hYi hN)
        | 16, _, hz => exact r_tsIn (pc := 33) 604 dL_law_33 hz (by omega) (by omega) rfl (by decide) (cs_teachers hX hZ hi7 hYi hN)
        | 17, _, hz => exact r_tsIn (pc := 33) 627 dL_law_33 hz (by omega) (by omega) rfl (by decide) (cs_debt hX hZ hi7 hYi hN)
        | 18, _, hz => exact r_tsIn (pc := 33) 670 dL_law_33 hz (by omega) (by omega) rfl (by decide) (cs_rate hX hZ hi7 hYi hN)
        | 19, _, hz => exact r_tsIn (pc := 33) 693 dL_law_33 hz (by omega) (by omega) rfl (by decide) (cs_net hX hZ hi7 hYi hN)
        | 20, _, hz => exact r_tsIn (pc := 33) 716 dL_law_33 hz (by omega) (by omega) rfl (by decide) (cs_cleared hX hZ hi7 hYi hN)
        | 21, _, hz => exact r_tsIn (pc := 33) 729 dL_law_33 hz (by omega) (by omega) rfl (by decide) (cs_report hX hZ hi7 hYi hN)
        | 22, _, hz => exact r_tsIn (pc := 33) 772 dL_law_33 hz (by omega) (by omega) rfl (by decide) (cs_liars hX hZ hi7 hYi hN)
        | 23, _, hz => exact r_tsIn (pc := 33) 795 dL_law_33 hz (by omega) (by omega) rfl (by decide) (cs_none hX hZ hi7 hYi hN)
        | 24, _, hz => exact r_tsIn (pc := 33) 818 dL_law_33 hz (by omega) (by omega) rfl (by decide) (cs_lots hX hZ hi7 hYi hN)
        | 25, _, hz => exact r_tsIn (pc := 33) 851 dL_law_33 hz (by omega) (by omega) rfl (by decide) (cs_word hX hZ hi7 hYi hN)
        | 26, _, hz => exact r_tsIn (pc := 33) 926 dL_law_33 hz (by omega) (by omega) rfl (by decide) (cs_toldOn hX hZ hi7 hYi hN)
        | 27, _, hz => exact r_tsIn (pc := 33) 969 dL_law_33 hz (by omega) (by omega) rfl (by decide) (cs_apart hX hZ hi7 hYi hN)
        | 28, _, hz => exact r_tsIn (pc := 33) 1002 dL_law_33 hz (by omega) (by omega) rfl (by decide) (cs_bears hX hZ hi7 hYi hN)
        | 29, _, hz => exact r_tsIn (pc := 33) 1015 dL_law_33 hz (by omega) (by omega) rfl (by decide) (cs_meant hX hZ hi7 hYi hN)
        | 30, _, hz => exact r_tsIn (pc := 33) 1090 dL_law_33 hz (by omega) (by omega) rfl (by decide) (cs_meet hX hZ hi7 hYi hN)
        | 31, _, hz => exact r_tsIn (pc := 33) 1123 dL_law_33 hz (by omega) (by omega) rfl (by decide) (cs_part hX hZ hi7 hYi hN)
        | 32, _, hz => exact r_tsIn (pc := 33) 1147 dL_law_33 hz (by omega) (by omega) rfl (by decide) (cs_image hX hZ hi7 hYi hN)
        | 33, _, hz => exact r_tsIn (pc := 33) 1170 dL_law_33 hz (by omega) (by omega) rfl (by decide) (cs_from hX hZ hi7 hYi hN)
        | 34, _, hz => exact r_tsIn (pc := 33) 1193 dL_law_33 hz (by omega) (by omega) rfl (by decide) (cs_status hX hZ hi7 hYi hN)
        | 35, _, hz => exact r_tsIn (pc := 33) 1216 dL_law_33 hz (by omega) (by omega) rfl (by decide) (cs_count hX hZ hi7 hYi hN)
        | 36, _, hz => exact r_tsIn (pc := 33) 1239 dL_law_33 hz (by omega) (by omega) rfl (by decide) (cs_digest hX hZ hi7 hYi hN)
        | k + 37, h, _ => exact absurd h (by omega)

