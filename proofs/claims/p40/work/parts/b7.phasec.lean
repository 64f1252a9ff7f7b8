/-! phase C: what must be held, and one less -/
theorem ph_c {G : WG} {nm : String} {b Ln nf m : Nat} {K1 K : Nat → Option Kd} {n : Nat × Nat} {Z : Nat × Nat} {Q : Post} {sx : Nat → Int} {Is : MI} {Ps : MP} {Ls : ML} {T : Nat → Int} {R : LSt × LSt × (Nat → Int) × Int × Int × Int × Int × Int × Int × Int} {Y fi he te : Int} {Ic : MI} {Pc : MP} {Lc : ML} (hX : LC b Ln K1 K sx Is) (hhe : he = heldF T m) (hm : 1 ≤ m ∧ m ≤ 20) (hnf : nf ≤ 6) (hR : ImR R T) (hA : AtS G (K1, n) R T Y Ic Pc Lc) (hY : 0 ≤ Y ∧ Y ≤ 10000) (hN : ∀ (Y' : Int) (Ic : MI) (Pc : MP) (Lc : ML), 0 ≤ Y' ∧ Y' ≤ Y + 500 → AtS G (K1, n) R T Y' Ic Pc Lc → NoB G Ic Lc → WJ G nm b nf m fi he te K1 K n Z Q Is Ps Ls 345 Ic Pc Lc) : WJ G nm b nf m fi he te K1 K n Z Q Is Ps Ls 259 Ic Pc Lc := by
  unfold WJ at hN ⊢
  obtain ⟨hs1, hKb, hL, hsc⟩ := hX
  have hFI := hA.fi
  have hhr := held_in T m
  have hg := hFI.2.2.1
  have st334 : ∀ (T' : Nat → Int) (Ic : MI) (Pc : MP) (Lc : ML), AtS G (K1, n) R T' Y Ic Pc Lc → Wd G ⟨RL, nm, "([I)Z"⟩ cL_law 17 (some .boolean) 48 Z Q 334 [some (.ref b), some (.ref (gB G)), some (.int (zI (nf : Int))), some (.int (zI (m : Int))), some (.int (zI fi)), some (.int (zI he)), some (.int (zI te)), none, none, none, none, none, none, none, none, none, none] [] (K, n) (mg K1 Ic Is) (mg K1 Pc Ps) (mg K1 Lc Ls) := by
    intro T' Ic Pc Lc hA
    refine r_aload_n (pc := 334) dL_law_334 rfl ?_
    refine r_iconst (pc := 335) dL_law_335 ?_
    refine i_V1if (pc := 336) okX11_from inX11_from selX11_from q680 dL_law_336 (sub_m hs1 _ _ _ _ _ _) (by exact hA.1.1.1) rfl (by decide) (Nat.le_of_ble_eq_true rfl) (sX11_from (G := G) (C := (K1, n)) (I := Ic) (P := Pc) (L := Lc) (h := hA.1)) (fun r1 I1 P1 L1 hq => ?_)
    dsimp only
    obtain ⟨e1, a1, nb1⟩ := at_from hA hR hq
    rw [mg_mg, mg_mg, mg_mg]
    refine r_iconst (pc := 339) dL_law_339 ?_
    refine r_icmp_eq (pc := 340) 345 dL_law_340 (by decide) (by omega) (by omega) (fun h340 => ?_) (fun h340 => ?_)
    · skip
      exact wd_f7 (hN _ _ _ _ (by omega) a1 nb1)
    · exfalso; omega
  have st310 : ∀ (T' : Nat → Int) (Ic : MI) (Pc : MP) (Lc : ML), AtS G (K1, n) R T' Y Ic Pc Lc → (he < 0 → T' = T) → Wd G ⟨RL, nm, "([I)Z"⟩ cL_law 17 (some .boolean) 48 Z Q 310 [some (.ref b), some (.ref (gB G)), some (.int (zI (nf : Int))), some (.int (zI (m : Int))), some (.int (zI fi)), some (.int (zI he)), some (.int (zI te)), none, none, none, none, none, none, none, none, none, none] [] (K, n) (mg K1 Ic Is) (mg K1 Pc Ps) (mg K1 Lc Ls) := by
    intro T' Ic Pc Lc hA hT'
    by_cases hneg : he < 0
    · rw [hT' hneg] at hA
      have hlow := held_none (T := T) (m := m) (by omega)
      have hfr := first_in (up T 2 999) m
      refine r_iload (pc := 310) dL_law_310 rfl ?_
      refine r_if_ge (pc := 312) 334 dL_law_312 (by decide) (by omega) (fun h312 => ?_) (fun h312 => ?_)
      · exfalso; omega
      · skip
        refine r_aload_n (pc := 315) dL_law_315 rfl ?_
        refine r_iconst (pc := 316) dL_law_316 ?_
        refine r_sipush (pc := 317) dL_law_317 (by decide) ?_
        refine i_V2if (pc := 320) okX11_store inX11_store selX11_store q313 dL_law_320 (sub_m hs1 _ _ _ _ _ _) (by exact hA.1.1.1) rfl (by decide) (Nat.le_of_ble_eq_true rfl) (sX11_store (G := G) (C := (K1, n)) (I := Ic) (P := Pc) (L := Lc) (h := hA.1)) (fun r1 I1 P1 L1 hq => ?_)
        dsimp only
        obtain ⟨e1, a1⟩ := at_store0 hA (by omega) hq
        rw [mg_mg, mg_mg, mg_mg]
        refine r_if_lt (pc := 323) 343 dL_law_323 (by decide) (by omega) (fun h323 => ?_) (fun h323 => ?_)
        · exfalso; omega
        · skip
          refine r_aload_n (pc := 326) dL_law_326 rfl ?_
          refine r_iload_n (pc := 327) dL_law_327 rfl ?_
          refine i_V1if (pc := 328) okX11_want inX11_want selX11_want q561 dL_law_328 (sub_m hs1 _ _ _ _ _ _) (by exact a1.1.1.1) rfl (by decide) (Nat.le_of_ble_eq_true rfl) (sX11_want (G := G) (C := (K1, n)) (I := I1) (P := P1) (L := L1) (h := a1.1)) (fun r2 I2 P2 L2 hq2 => ?_)
          dsimp only
          obtain ⟨e2, a2⟩ := at_want a1 (by omega) hq2
          rw [mg_mg, mg_mg, mg_mg]
          refine r_if_lt (pc := 331) 343 dL_law_331 (by decide) (by omega) (fun h331 => ?_) (fun h331 => ?_)
          · exfalso; omega
          · skip
            exact st334 _ I2 P2 L2 a2
    · skip
      refine r_iload (pc := 310) dL_law_310 rfl ?_
      refine r_if_ge (pc := 312) 334 dL_law_312 (by decide) (by omega) (fun h312 => ?_) (fun h312 => ?_)
      · skip
        exact st334 _ Ic Pc Lc hA
      · exfalso; omega
  have st283 : ∀ (T' : Nat → Int) (Ic : MI) (Pc : MP) (Lc : ML), AtS G (K1, n) R T' Y Ic Pc Lc → (he < 0 → T' = T) → (0 ≤ he → T' = up T 2 he) → Wd G ⟨RL, nm, "([I)Z"⟩ cL_law 17 (some .boolean) 48 Z Q 283 [some (.ref b), some (.ref (gB G)), some (.int (zI (nf : Int))), some (.int (zI (m : Int))), some (.int (zI fi)), some (.int (zI he)), some (.int (zI te)), none, none, none, none, none, none, none, none, none, none] [] (K, n) (mg K1 Ic Is) (mg K1 Pc Ps) (mg K1 Lc Ls) := by
    intro T' Ic Pc Lc hA hT1 hT2
    by_cases hpos : 0 < he
    · have hlow := held_low (T := T) (m := m) (by omega)
      have hfr := first_in (up T 2 (heldF T m - 1)) m
      rw [hT2 (by omega)] at hA
      refine r_iload (pc := 283) dL_law_283 rfl ?_
      refine r_if_le (pc := 285) 310 dL_law_285 (by decide) (by omega) (fun h285 => ?_) (fun h285 => ?_)
      · exfalso; omega
      · skip
        refine r_aload_n (pc := 288) dL_law_288 rfl ?_
        refine r_iconst (pc := 289) dL_law_289 ?_
        refine r_iload (pc := 290) dL_law_290 rfl ?_
        refine r_iconst (pc := 292) dL_law_292 ?_
        refine r_isub (pc := 293) dL_law_293 ?_
        refine i_V2if (pc := 294) okX11_store inX11_store selX11_store q313 dL_law_294 (sub_m hs1 _ _ _ _ _ _) (by exact hA.1.1.1) rfl (by decide) (Nat.le_of_ble_eq_true rfl) (sX11_store (G := G) (C := (K1, n)) (I := Ic) (P := Pc) (L := Lc) (h := hA.1)) (fun r1 I1 P1 L1 hq => ?_)
        dsimp only
        obtain ⟨e1, a1⟩ := at_store0 hA (by omega) hq
        rw [up_s] at e1
        rw [up_up] at a1
        rw [mg_mg, mg_mg, mg_mg]
        refine r_iload (pc := 297) dL_law_297 rfl ?_
        refine r_icmp_ne (pc := 299) 343 dL_law_299 (by decide) (by omega) (by omega) (fun h299 => ?_) (fun h299 => ?_)
        · exfalso; omega
        · skip
          refine r_aload_n (pc := 302) dL_law_302 rfl ?_
          refine r_iload_n (pc := 303) dL_law_303 rfl ?_
          refine i_V1if (pc := 304) okX11_want inX11_want selX11_want q561 dL_law_304 (sub_m hs1 _ _ _ _ _ _) (by exact a1.1.1.1) rfl (by decide) (Nat.le_of_ble_eq_true rfl) (sX11_want (G := G) (C := (K1, n)) (I := I1) (P := P1) (L := L1) (h := a1.1)) (fun r2 I2 P2 L2 hq2 => ?_)
          dsimp only
          obtain ⟨e2, a2⟩ := at_want a1 (by omega) hq2
          rw [hhe] at e2
          rw [mg_mg, mg_mg, mg_mg]
          refine r_if_lt (pc := 307) 343 dL_law_307 (by decide) (by omega) (fun h307 => ?_) (fun h307 => ?_)
          · exfalso; omega
          · skip
            exact st310 _ I2 P2 L2 a2 (fun hz => by omega)
    · skip
      refine r_iload (pc := 283) dL_law_283 rfl ?_
      refine r_if_le (pc := 285) 310 dL_law_285 (by decide) (by omega) (fun h285 => ?_) (fun h285 => ?_)
      · skip
        exact st310 _ Ic Pc Lc hA hT1
      · exfalso; omega
  by_cases hneg : he < 0
  · skip
    refine r_iload (pc := 259) dL_law_259 rfl ?_
    refine r_if_lt (pc := 261) 283 dL_law_261 (by decide) (by omega) (fun h261 => ?_) (fun h261 => ?_)
    · skip
      exact st283 _ Ic Pc Lc hA (fun _ => rfl) (fun hz => by omega)
    · exfalso; omega
  · have hok := held_ok (T := T) (m := m) (by omega)
    rw [← hhe] at hok
    refine r_iload (pc := 259) dL_law_259 rfl ?_
    refine r_if_lt (pc := 261) 283 dL_law_261 (by decide) (by omega) (fun h261 => ?_) (fun h261 => ?_)
    · exfalso; omega
    · skip
      refine r_aload_n (pc := 264) dL_law_264 rfl ?_
      refine r_iconst (pc := 265) dL_law_265 ?_
      refine r_iload (pc := 266) dL_law_266 rfl ?_
      refine i_V2if (pc := 268) okX11_store inX11_store selX11_store q313 dL_law_268 (sub_m hs1 _ _ _ _ _ _) (by exact hA.1.1.1) rfl (by decide) (Nat.le_of_ble_eq_true rfl) (sX11_store (G := G) (C := (K1, n)) (I := Ic) (P := Pc) (L := Lc) (h := hA.1)) (fun r1 I1 P1 L1 hq => ?_)
      dsimp only
      obtain ⟨e1, a1⟩ := at_store0 hA (by omega) hq
      rw [mg_mg, mg_mg, mg_mg]
      refine r_if_lt (pc := 271) 343 dL_law_271 (by decide) (by omega) (fun h271 => ?_) (fun h271 => ?_)
      · exfalso; omega
      · skip
        refine r_aload_n (pc := 274) dL_law_274 rfl ?_
        refine r_iload_n (pc := 275) dL_law_275 rfl ?_
        refine i_V1if (pc := 276) okX11_want inX11_want selX11_want q561 dL_law_276 (sub_m hs1 _ _ _ _ _ _) (by exact a1.1.1.1) rfl (by decide) (Nat.le_of_ble_eq_true rfl) (sX11_want (G := G) (C := (K1, n)) (I := I1) (P := P1) (L := L1) (h := a1.1)) (fun r2 I2 P2 L2 hq2 => ?_)
        dsimp only
        obtain ⟨e2, a2⟩ := at_want a1 (by omega) hq2
        rw [mg_mg, mg_mg, mg_mg]
        refine r_iconst (pc := 279) dL_law_279 ?_
        refine r_icmp_ne (pc := 280) 343 dL_law_280 (by decide) (by omega) (by omega) (fun h280 => ?_) (fun h280 => ?_)
        · exfalso; omega
        · skip
          exact st283 _ I2 P2 L2 a2 (fun hz => by omega) (fun _ => rfl)

