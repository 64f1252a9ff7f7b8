/-! phase D: with just those who must teach all remember -/
theorem ph_d {G : WG} {nm : String} {b Ln nf m : Nat} {K1 K : Nat → Option Kd} {n : Nat × Nat} {Z : Nat × Nat} {Q : Post} {sx : Nat → Int} {Is : MI} {Ps : MP} {Ls : ML} {T : Nat → Int} {R : LSt × LSt × (Nat → Int) × Int × Int × Int × Int × Int × Int × Int} {Y fi he te : Int} {Ic : MI} {Pc : MP} {Lc : ML} (hX : LC b Ln K1 K sx Is) (hte : te = fewT T m (2 ^ nf)) (hm : 1 ≤ m ∧ m ≤ 20) (hnf : nf ≤ 6) (hT6 : T 6 = (nf : Int)) (hR : ImR R T) (hA : AtS G (K1, n) R T Y Ic Pc Lc) (hY : 0 ≤ Y ∧ Y ≤ 10000) (hN : ∀ (Y' : Int) (Ic : MI) (Pc : MP) (Lc : ML), 0 ≤ Y' ∧ Y' ≤ Y + 500 → AtS G (K1, n) R T Y' Ic Pc Lc → NoB G Ic Lc → WJ G nm b nf m fi he te K1 K n Z Q Is Ps Ls 463 Ic Pc Lc) : WJ G nm b nf m fi he te K1 K n Z Q Is Ps Ls 345 Ic Pc Lc := by
  unfold WJ at hN ⊢
  obtain ⟨hs1, hKb, hL, hsc⟩ := hX
  have hFI := hA.fi
  have hsz : sizeF T = nf := by have := hA.sz; omega
  have hin := fewT_in T m (2 ^ nf)
  have h64 : 2 ^ nf ≤ 64 := Nat.pow_le_pow_right (by decide) hnf
  have st452 : ∀ (T' : Nat → Int) (Y' : Int) (x8 x9 : Option Value) (Ic : MI) (Pc : MP) (Lc : ML), 0 ≤ Y' ∧ Y' ≤ Y + 500 → AtS G (K1, n) R T' Y' Ic Pc Lc → Wd G ⟨RL, nm, "([I)Z"⟩ cL_law 17 (some .boolean) 48 Z Q 452 [some (.ref b), some (.ref (gB G)), some (.int (zI (nf : Int))), some (.int (zI (m : Int))), some (.int (zI fi)), some (.int (zI he)), some (.int (zI te)), none, x8, x9, none, none, none, none, none, none, none] [] (K, n) (mg K1 Ic Is) (mg K1 Pc Ps) (mg K1 Lc Ls) := by
    intro T' Y' x8 x9 Ic Pc Lc hY' hA
    refine r_aload_n (pc := 452) dL_law_452 rfl ?_
    refine r_iconst (pc := 453) dL_law_453 ?_
    refine i_V1if (pc := 454) okX11_from inX11_from selX11_from q680 dL_law_454 (sub_m hs1 _ _ _ _ _ _) (by exact hA.1.1.1) rfl (by decide) (Nat.le_of_ble_eq_true rfl) (sX11_from (G := G) (C := (K1, n)) (I := Ic) (P := Pc) (L := Lc) (h := hA.1)) (fun r1 I1 P1 L1 hq => ?_)
    dsimp only
    obtain ⟨e1, a1, nb1⟩ := at_from hA hR hq
    rw [mg_mg, mg_mg, mg_mg]
    refine r_iconst (pc := 457) dL_law_457 ?_
    refine r_icmp_eq (pc := 458) 463 dL_law_458 (by decide) (by omega) (by omega) (fun h458 => ?_) (fun h458 => ?_)
    · skip
      exact wd_f7 (hN _ _ _ _ hY' a1 nb1)
    · exfalso; omega
  by_cases hneg : te < 0
  · skip
    refine r_iload (pc := 345) dL_law_345 rfl ?_
    refine r_if_lt (pc := 347) 452 dL_law_347 (by decide) (by omega) (fun h347 => ?_) (fun h347 => ?_)
    · skip
      exact st452 _ _ _ _ Ic Pc Lc (by omega) hA
    · exfalso; omega
  obtain ⟨t, rfl⟩ : ∃ t : Nat, te = (t : Int) := ⟨te.toNat, by omega⟩
  have hkeep := few_keep T m (2 ^ nf) (by omega)
  rw [← hte, Int.toNat_natCast] at hkeep
  unfold keepF at hkeep
  rw [hsz] at hkeep
  have ht64 : t < 64 := by omega
  clear hin
  have st427 : ∀ (e f : Nat) (j : Int) (x9 : Option Value) (Ic : MI) (Pc : MP) (Lc : ML), f + e = nf → j = (f : Int) → AtS G (K1, n) R (runF (teachOf T t nf) m) (Y + 20) Ic Pc Lc → Wd G ⟨RL, nm, "([I)Z"⟩ cL_law 17 (some .boolean) 48 Z Q 427 [some (.ref b), some (.ref (gB G)), some (.int (zI (nf : Int))), some (.int (zI (m : Int))), some (.int (zI fi)), some (.int (zI he)), some (.int (zI (t : Int))), none, some (.int (zI j)), x9, none, none, none, none, none, none, none] [] (K, n) (mg K1 Ic Is) (mg K1 Pc Ps) (mg K1 Lc Ls) := by
    intro e
    induction e with
    | zero =>
      intro f j x9 Ic Pc Lc he1 hj hA2
      refine r_iload (pc := 427) dL_law_427 rfl ?_
      refine r_iload_n (pc := 429) dL_law_429 rfl ?_
      refine r_icmp_ge (pc := 430) 452 dL_law_430 (by decide) (by omega) (by omega) (fun h430 => ?_) (fun h430 => ?_)
      · skip
        exact st452 _ _ _ _ Ic Pc Lc (by omega) hA2
      · exfalso; omega
    | succ e ihe =>
      intro f j x9 Ic Pc Lc he1 hj hA2
      have hkn := know_at hkeep f (by omega)
      have h6 : runF (teachOf T t nf) m 6 = (nf : Int) := by rw [run_6, fx_tof T t (by omega), hT6]
      have hb9 := hA2.fi.2.2.2.2.2.2.2 f (by omega)
      rw [show 9 + 4 * f = 7 + 4 * f + 2 by omega] at hkn hb9
      refine r_iload (pc := 427) dL_law_427 rfl ?_
      refine r_iload_n (pc := 429) dL_law_429 rfl ?_
      refine r_icmp_ge (pc := 430) 452 dL_law_430 (by decide) (by omega) (by omega) (fun h430 => ?_) (fun h430 => ?_)
      · exfalso; omega
      · skip
        refine r_aload_n (pc := 433) dL_law_433 rfl ?_
        refine r_iload (pc := 434) dL_law_434 rfl ?_
        refine r_iconst (pc := 436) dL_law_436 ?_
        refine i_V2if (pc := 437) okX11_about inX11_about selX11_about q521 dL_law_437 (sub_m hs1 _ _ _ _ _ _) (by exact hA2.1.1.1) rfl (by decide) (Nat.le_of_ble_eq_true rfl) (sX11_about (G := G) (C := (K1, n)) (I := Ic) (P := Pc) (L := Lc) (h := hA2.1)) (fun r1 I1 P1 L1 hq => ?_)
        dsimp only
        obtain ⟨e1, a1⟩ := at_about (f := f) (j := 2) hA2 hj rfl (by omega) (by omega) hq
        rw [mg_mg, mg_mg, mg_mg]
        refine r_iconst (pc := 440) dL_law_440 ?_
        refine r_icmp_ge (pc := 441) 446 dL_law_441 (by decide) (by omega) (by omega) (fun h441 => ?_) (fun h441 => ?_)
        · skip
          refine r_iinc (pc := 446) dL_law_446 rfl ?_
          refine r_goto (pc := 449) 427 dL_law_449 (by decide) ?_
          exact ihe (f + 1) _ _ I1 P1 L1 (by omega) (by omega) a1
        · exfalso; omega
  have st353 : ∀ (e f : Nat) (j : Int) (x9 : Option Value) (Ic : MI) (Pc : MP) (Lc : ML), f + e = nf → j = (f : Int) → AtS G (K1, n) R (teachOf T t f) Y Ic Pc Lc → Wd G ⟨RL, nm, "([I)Z"⟩ cL_law 17 (some .boolean) 48 Z Q 353 [some (.ref b), some (.ref (gB G)), some (.int (zI (nf : Int))), some (.int (zI (m : Int))), some (.int (zI fi)), some (.int (zI he)), some (.int (zI (t : Int))), none, some (.int (zI j)), x9, none, none, none, none, none, none, none] [] (K, n) (mg K1 Ic Is) (mg K1 Pc Ps) (mg K1 Lc Ls) := by
    intro e
    induction e with
    | zero =>
      intro f j x9 Ic Pc Lc he1 hj hA2
      obtain rfl : f = nf := by omega
      refine r_iload (pc := 353) dL_law_353 rfl ?_
      refine r_iload_n (pc := 355) dL_law_355 rfl ?_
      refine r_icmp_ge (pc := 356) 414 dL_law_356 (by decide) (by omega) (by omega) (fun h356 => ?_) (fun h356 => ?_)
      · skip
        refine r_aload_n (pc := 414) dL_law_414 rfl ?_
        refine r_iload_n (pc := 415) dL_law_415 rfl ?_
        refine i_V1if (pc := 416) okX11_pass inX11_pass selX11_pass q344 dL_law_416 (sub_m hs1 _ _ _ _ _ _) (by exact hA2.1.1.1) rfl (by decide) (Nat.le_of_ble_eq_true rfl) (sX11_pass (G := G) (C := (K1, n)) (I := Ic) (P := Pc) (L := Lc) (h := hA2.1)) (fun r1 I1 P1 L1 hq => ?_)
        dsimp only
        obtain ⟨e1, a1⟩ := at_passm hA2 hm hq
        rw [mg_mg, mg_mg, mg_mg]
        refine r_if_ge (pc := 419) 424 dL_law_419 (by decide) (by omega) (fun h419 => ?_) (fun h419 => ?_)
        · skip
          refine r_iconst (pc := 424) dL_law_424 ?_
          refine r_istore (pc := 425) dL_law_425 (by decide) ?_
          exact st427 f 0 _ _ I1 P1 L1 (by omega) (by omega) a1
        · exfalso; omega
      · exfalso; omega
    | succ e ihe =>
      intro f j x9 Ic Pc Lc he1 hj hA2
      have h6 : teachOf T t f 6 = (nf : Int) := by rw [fx_tof T t (by omega), hT6]
      have h10 : teachOf T t f (10 + 4 * f) = T (10 + 4 * f) := tof_hi T t f f (Nat.le_refl f)
      have hb10 := (hFI.2.2.2.2.2.2.2 f (by omega)).2.2.2.1
      have hbit := b_bit (s := t) (f := f) (by omega) (by omega)
      rw [← hj] at hbit
      have hnx : teachOf T t (f + 1) = up (teachOf T t f) (10 + 4 * f) (if t.testBit f then 1 else if T (10 + 4 * f) = 1 then 0 else T (10 + 4 * f)) := rfl
      cases hb : t.testBit f with
      | true =>
        rw [hb, if_pos rfl] at hbit hnx
        refine r_iload (pc := 353) dL_law_353 rfl ?_
        refine r_iload_n (pc := 355) dL_law_355 rfl ?_
        refine r_icmp_ge (pc := 356) 414 dL_law_356 (by decide) (by omega) (by omega) (fun h356 => ?_) (fun h356 => ?_)
        · exfalso; omega
        · skip
          refine r_aload_n (pc := 359) dL_law_359 rfl ?_
          refine r_iload (pc := 360) dL_law_360 rfl ?_
          refine r_iconst (pc := 362) dL_law_362 ?_
          refine i_V2if (pc := 363) okX11_about inX11_about selX11_about q521 dL_law_363 (sub_m hs1 _ _ _ _ _ _) (by exact hA2.1.1.1) rfl (by decide) (Nat.le_of_ble_eq_true rfl) (sX11_about (G := G) (C := (K1, n)) (I := Ic) (P := Pc) (L := Lc) (h := hA2.1)) (fun r1 I1 P1 L1 hq => ?_)
          dsimp only
          obtain ⟨e1, a1⟩ := at_about (f := f) (j := 3) hA2 hj rfl (by omega) (by omega) hq
          rw [show 7 + 4 * f + 3 = 10 + 4 * f by omega, h10] at e1
          rw [mg_mg, mg_mg, mg_mg]
          refine r_istore (pc := 366) dL_law_366 (by decide) ?_
          refine r_aload_n (pc := 368) dL_law_368 rfl ?_
          refine r_iload (pc := 369) dL_law_369 rfl ?_
          refine r_iload (pc := 371) dL_law_371 rfl ?_
          refine r_iload (pc := 373) dL_law_373 rfl ?_
          refine r_ishr (pc := 375) dL_law_375 ?_
          refine r_iconst (pc := 376) dL_law_376 ?_
          refine r_iand (pc := 377) dL_law_377 ?_
          rw [hbit]
          refine r_iconst (pc := 378) dL_law_378 ?_
          refine r_icmp_ne (pc := 379) 386 dL_law_379 (by decide) (by omega) (by omega) (fun h379 => ?_) (fun h379 => ?_)
          · exfalso; omega
          · skip
            refine r_iconst (pc := 382) dL_law_382 ?_
            refine r_goto (pc := 383) 398 dL_law_383 (by decide) ?_
            refine i_V2if (pc := 398) okX11_job inX11_job selX11_job q332 dL_law_398 (sub_m hs1 _ _ _ _ _ _) (by exact a1.1.1.1) rfl (by decide) (Nat.le_of_ble_eq_true rfl) (sX11_job (G := G) (C := (K1, n)) (I := I1) (P := P1) (L := L1) (h := a1.1)) (fun r2 I2 P2 L2 hq2 => ?_)
            dsimp only
            obtain ⟨e2, a2⟩ := at_job (f := f) a1 hj (by omega) (by omega) hq2
            rw [h10] at e2
            rw [mg_mg, mg_mg, mg_mg]
            refine r_iload (pc := 401) dL_law_401 rfl ?_
            refine r_icmp_eq (pc := 403) 408 dL_law_403 (by decide) (by omega) (by omega) (fun h403 => ?_) (fun h403 => ?_)
            · skip
              refine r_iinc (pc := 408) dL_law_408 rfl ?_
              refine r_goto (pc := 411) 353 dL_law_411 (by decide) ?_
              exact ihe (f + 1) _ _ I2 P2 L2 (by omega) (by omega) (by rw [hnx]; exact a2)
            · exfalso; omega
      | false =>
        rw [hb, if_neg (by decide)] at hbit hnx
        refine r_iload (pc := 353) dL_law_353 rfl ?_
        refine r_iload_n (pc := 355) dL_law_355 rfl ?_
        refine r_icmp_ge (pc := 356) 414 dL_law_356 (by decide) (by omega) (by omega) (fun h356 => ?_) (fun h356 => ?_)
        · exfalso; omega
        · skip
          refine r_aload_n (pc := 359) dL_law_359 rfl ?_
          refine r_iload (pc := 360) dL_law_360 rfl ?_
          refine r_iconst (pc := 362) dL_law_362 ?_
          refine i_V2if (pc := 363) okX11_about inX11_about selX11_about q521 dL_law_363 (sub_m hs1 _ _ _ _ _ _) (by exact hA2.1.1.1) rfl (by decide) (Nat.le_of_ble_eq_true rfl) (sX11_about (G := G) (C := (K1, n)) (I := Ic) (P := Pc) (L := Lc) (h := hA2.1)) (fun r1 I1 P1 L1 hq => ?_)
          dsimp only
          obtain ⟨e1, a1⟩ := at_about (f := f) (j := 3) hA2 hj rfl (by omega) (by omega) hq
          rw [show 7 + 4 * f + 3 = 10 + 4 * f by omega, h10] at e1
          rw [mg_mg, mg_mg, mg_mg]
          refine r_istore (pc := 366) dL_law_366 (by decide) ?_
          refine r_aload_n (pc := 368) dL_law_368 rfl ?_
          refine r_iload (pc := 369) dL_law_369 rfl ?_
          refine r_iload (pc := 371) dL_law_371 rfl ?_
          refine r_iload (pc := 373) dL_law_373 rfl ?_
          refine r_ishr (pc := 375) dL_law_375 ?_
          refine r_iconst (pc := 376) dL_law_376 ?_
          refine r_iand (pc := 377) dL_law_377 ?_
          rw [hbit]
          refine r_iconst (pc := 378) dL_law_378 ?_
          refine r_icmp_ne (pc := 379) 386 dL_law_379 (by decide) (by omega) (by omega) (fun h379 => ?_) (fun h379 => ?_)
          · skip
            refine r_iload (pc := 386) dL_law_386 rfl ?_
            refine r_iconst (pc := 388) dL_law_388 ?_
            refine r_icmp_ne (pc := 389) 396 dL_law_389 (by decide) (by omega) (by omega) (fun h389 => ?_) (fun h389 => ?_)
            · skip
              refine r_iload (pc := 396) dL_law_396 rfl ?_
              refine i_V2if (pc := 398) okX11_job inX11_job selX11_job q332 dL_law_398 (sub_m hs1 _ _ _ _ _ _) (by exact a1.1.1.1) rfl (by decide) (Nat.le_of_ble_eq_true rfl) (sX11_job (G := G) (C := (K1, n)) (I := I1) (P := P1) (L := L1) (h := a1.1)) (fun r2 I2 P2 L2 hq2 => ?_)
              dsimp only
              obtain ⟨e2, a2⟩ := at_job (f := f) a1 hj (by omega) (by omega) hq2
              rw [h10] at e2
              rw [mg_mg, mg_mg, mg_mg]
              refine r_iload (pc := 401) dL_law_401 rfl ?_
              refine r_icmp_eq (pc := 403) 408 dL_law_403 (by decide) (by omega) (by omega) (fun h403 => ?_) (fun h403 => ?_)
              · skip
                refine r_iinc (pc := 408) dL_law_408 rfl ?_
                refine r_goto (pc := 411) 353 dL_law_411 (by decide) ?_
                refine ihe (f + 1) _ _ I2 P2 L2 (by omega) (by omega) ?_
                rw [hnx]
                first
                  | (rw [if_pos (by omega)]; exact a2)
                  | (rw [if_neg (by omega), show T (10 + 4 * f) = r1 by omega]; exact a2)
              · exfalso; omega
            · skip
              refine r_iconst (pc := 392) dL_law_392 ?_
              refine r_goto (pc := 393) 398 dL_law_393 (by decide) ?_
              refine i_V2if (pc := 398) okX11_job inX11_job selX11_job q332 dL_law_398 (sub_m hs1 _ _ _ _ _ _) (by exact a1.1.1.1) rfl (by decide) (Nat.le_of_ble_eq_true rfl) (sX11_job (G := G) (C := (K1, n)) (I := I1) (P := P1) (L := L1) (h := a1.1)) (fun r2 I2 P2 L2 hq2 => ?_)
              dsimp only
              obtain ⟨e2, a2⟩ := at_job (f := f) a1 hj (by omega) (by omega) hq2
              rw [h10] at e2
              rw [mg_mg, mg_mg, mg_mg]
              refine r_iload (pc := 401) dL_law_401 rfl ?_
              refine r_icmp_eq (pc := 403) 408 dL_law_403 (by decide) (by omega) (by omega) (fun h403 => ?_) (fun h403 => ?_)
              · skip
                refine r_iinc (pc := 408) dL_law_408 rfl ?_
                refine r_goto (pc := 411) 353 dL_law_411 (by decide) ?_
                refine ihe (f + 1) _ _ I2 P2 L2 (by omega) (by omega) ?_
                rw [hnx]
                first
                  | (rw [if_pos (by omega)]; exact a2)
                  | (rw [if_neg (by omega), show T (10 + 4 * f) = r1 by omega]; exact a2)
              · exfalso; omega
          · exfalso; omega
  refine r_iload (pc := 345) dL_law_345 rfl ?_
  refine r_if_lt (pc := 347) 452 dL_law_347 (by decide) (by omega) (fun h347 => ?_) (fun h347 => ?_)
  · exfalso; omega
  · skip
    refine r_iconst (pc := 350) dL_law_350 ?_
    refine r_istore (pc := 351) dL_law_351 (by decide) ?_
    exact st353 nf 0 _ _ Ic Pc Lc (by omega) (by omega) hA

