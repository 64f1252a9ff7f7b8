/-! the law's cases: class and reference answer alike, what holds between the calls is kept -/
theorem cs_year {G : WG} {nm : String} {b m i L : Nat} {K1 K2 K : Nat → Option Kd} {n : Nat × Nat} {Z : Nat × Nat} {Q : Post} {sx : Nat → Int} {Is : MI} {Ps : MP} {Ls : ML} {Y : Int} {Ic : MI} {Pc : MP} {Lc : ML} {Im : MI} {Pm : MP} {Lm : ML} (hX : LX G b L K1 K2 K n sx Is) (hZ : LZ G m K1 K2 n Y Ic Pc Lc Im Pm Lm) (hi : i + 7 ≤ L) (hYi : Y ≤ 20 * (i : Int)) (hN : ∀ (Y' : Int) (Ic' : MI) (Pc' : MP) (Lc' : ML) (Im' : MI) (Lm' : ML), Y' ≤ Y + 20 → LZ G m K1 K2 n Y' Ic' Pc' Lc' Im' Pm Lm' → WL G nm b m i K1 K2 K n Z Q Is Ps Ls 1253 Ic' Pc' Lc' Im' Pm Lm') : WL G nm b m i K1 K2 K n Z Q Is Ps Ls 196 Ic Pc Lc Im Pm Lm := by
  obtain ⟨hs1, hs2, hdi, hKb, hL, hxi, hsc⟩ := hX
  obtain ⟨hYI, hRf, hR, hY0⟩ := hZ
  have hSI := YI_SI (L := Lc) hYI
  have hr0 := hsc Ic Im Pc Y hYI
  have hx1 := hxi (i + 1) (by omega)
  have hF : FI (Im (m + 1)) Y := hR.1.2.1
  have hBI : BI (Im (m + 1)) := hR.1.2.2.1
  have hRR := rel_year hR hSI hY0 (sx (i + 1))
  unfold WL
  refine r_aload_n (pc := 196) dL_law_196 rfl ?_
  refine r_aload_n (pc := 197) dL_law_197 rfl ?_
  refine r_iload_n (pc := 198) dL_law_198 rfl ?_
  refine r_iconst (pc := 199) dL_law_199 ?_
  refine r_iadd (pc := 200) dL_law_200 ?_
  refine r_iald (j := i + 1) (pc := 201) dL_law_201 (by exact hKb) (by omega) (by omega) (by omega) ?_
  rw [hr0 (i + 1) (by omega)]
  refine i_V1if (pc := 202) okX11_year inX11_year selX11_year q330 dL_law_202 (sub_1 hs1 _ _ _ _ _ _ _ _ _) (by exact hYI.1.1) rfl (by decide) (Nat.le_of_ble_eq_true rfl) (sX11_year (G := G) (C := (K1, n)) (I := Ic) (P := Pc) (L := Lc)) (fun r1 I1 P1 L1 hq => ?_)
  dsimp only
  obtain ⟨q1, q2, q3⟩ := hq
  rw [mg_1, mg_1, mg_1]
  have hr1 := hsc I1 Im P1 Y q3
  refine r_aload_n (pc := 205) dL_law_205 rfl ?_
  refine r_aload_n (pc := 206) dL_law_206 rfl ?_
  refine r_iload_n (pc := 207) dL_law_207 rfl ?_
  refine r_iconst (pc := 208) dL_law_208 ?_
  refine r_iadd (pc := 209) dL_law_209 ?_
  refine r_iald (j := i + 1) (pc := 210) dL_law_210 (by exact hKb) (by omega) (by omega) (by omega) ?_
  rw [hr1 (i + 1) (by omega)]
  refine i_V1if (pc := 211) okX12_year inX12_year selX12_year q1092 dL_law_211 (sub_2 hdi hs2 _ _ _ _ _ _ _ _ _) (by exact hRf.2.1) rfl (by decide) (Nat.le_of_ble_eq_true rfl) (sX12_year (G := G) (C := (K2, n)) (I := Im) (P := Pm) (L := Lm)) (fun r2 I2 P2 L2 hq => ?_)
  dsimp only
  obtain ⟨w1, w2, w3⟩ := hq
  rw [mg_2 hdi, mg_2 hdi, mg_2 hdi]
  subst w3
  have e := q1.trans (hRR.1.trans w1.symm)
  subst e
  exact r_jeq (pc := 214) 1253 dL_law_214 (by decide) (hN Y I1 P1 L1 I2 L2 (by omega) ⟨q3, hRf, by rw [q2, w2]; exact hRR.2, by omega⟩)
theorem cs_store {G : WG} {nm : String} {b m i L : Nat} {K1 K2 K : Nat → Option Kd} {n : Nat × Nat} {Z : Nat × Nat} {Q : Post} {sx : Nat → Int} {Is : MI} {Ps : MP} {Ls : ML} {Y : Int} {Ic : MI} {Pc : MP} {Lc : ML} {Im : MI} {Pm : MP} {Lm : ML} (hX : LX G b L K1 K2 K n sx Is) (hZ : LZ G m K1 K2 n Y Ic Pc Lc Im Pm Lm) (hi : i + 7 ≤ L) (hYi : Y ≤ 20 * (i : Int)) (hN : ∀ (Y' : Int) (Ic' : MI) (Pc' : MP) (Lc' : ML) (Im' : MI) (Lm' : ML), Y' ≤ Y + 20 → LZ G m K1 K2 n Y' Ic' Pc' Lc' Im' Pm Lm' → WL G nm b m i K1 K2 K n Z Q Is Ps Ls 1253 Ic' Pc' Lc' Im' Pm Lm') : WL G nm b m i K1 K2 K n Z Q Is Ps Ls 219 Ic Pc Lc Im Pm Lm := by
  obtain ⟨hs1, hs2, hdi, hKb, hL, hxi, hsc⟩ := hX
  obtain ⟨hYI, hRf, hR, hY0⟩ := hZ
  have hSI := YI_SI (L := Lc) hYI
  have hr0 := hsc Ic Im Pc Y hYI
  have hx1 := hxi (i + 1) (by omega)
  have hx2 := hxi (i + 2) (by omega)
  have hF : FI (Im (m + 1)) Y := hR.1.2.1
  have hBI : BI (Im (m + 1)) := hR.1.2.2.1
  have hRR := rel_store hR hSI (sx (i + 1)) (sx (i + 2))
  unfold WL
  refine r_aload_n (pc := 219) dL_law_219 rfl ?_
  refine r_aload_n (pc := 220) dL_law_220 rfl ?_
  refine r_iload_n (pc := 221) dL_law_221 rfl ?_
  refine r_iconst (pc := 222) dL_law_222 ?_
  refine r_iadd (pc := 223) dL_law_223 ?_
  refine r_iald (j := i + 1) (pc := 224) dL_law_224 (by exact hKb) (by omega) (by omega) (by omega) ?_
  rw [hr0 (i + 1) (by omega)]
  refine r_aload_n (pc := 225) dL_law_225 rfl ?_
  refine r_iload_n (pc := 226) dL_law_226 rfl ?_
  refine r_iconst (pc := 227) dL_law_227 ?_
  refine r_iadd (pc := 228) dL_law_228 ?_
  refine r_iald (j := i + 2) (pc := 229) dL_law_229 (by exact hKb) (by omega) (by omega) (by omega) ?_
  rw [hr0 (i + 2) (by omega)]
  refine i_V2if (pc := 230) okX11_store inX11_store selX11_store q353 dL_law_230 (sub_1 hs1 _ _ _ _ _ _ _ _ _) (by exact hYI.1.1) rfl (by decide) (Nat.le_of_ble_eq_true rfl) (sX11_store (G := G) (C := (K1, n)) (I := Ic) (P := Pc) (L := Lc)) (fun r1 I1 P1 L1 hq => ?_)
  dsimp only
  obtain ⟨q1, q2, q3⟩ := hq
  rw [mg_1, mg_1, mg_1]
  have hr1 := hsc I1 Im P1 Y q3
  refine r_aload_n (pc := 233) dL_law_233 rfl ?_
  refine r_aload_n (pc := 234) dL_law_234 rfl ?_
  refine r_iload_n (pc := 235) dL_law_235 rfl ?_
  refine r_iconst (pc := 236) dL_law_236 ?_
  refine r_iadd (pc := 237) dL_law_237 ?_
  refine r_iald (j := i + 1) (pc := 238) dL_law_238 (by exact hKb) (by omega) (by omega) (by omega) ?_
  rw [hr1 (i + 1) (by omega)]
  refine r_aload_n (pc := 239) dL_law_239 rfl ?_
  refine r_iload_n (pc := 240) dL_law_240 rfl ?_
  refine r_iconst (pc := 241) dL_law_241 ?_
  refine r_iadd (pc := 242) dL_law_242 ?_
  refine r_iald (j := i + 2) (pc := 243) dL_law_243 (by exact hKb) (by omega) (by omega) (by omega) ?_
  rw [hr1 (i + 2) (by omega)]
  refine i_V2if (pc := 244) okX12_store inX12_store selX12_store q1105 dL_law_244 (sub_2 hdi hs2 _ _ _ _ _ _ _ _ _) (by exact hRf.2.1) rfl (by decide) (Nat.le_of_ble_eq_true rfl) (sX12_store (G := G) (C := (K2, n)) (I := Im) (P := Pm) (L := Lm)) (fun r2 I2 P2 L2 hq => ?_)
  dsimp only
  obtain ⟨w1, w2, w3⟩ := hq
  rw [mg_2 hdi, mg_2 hdi, mg_2 hdi]
  subst w3
  have e := q1.trans (hRR.1.trans w1.symm)
  subst e
  exact r_jeq (pc := 247) 1253 dL_law_247 (by decide) (hN Y I1 P1 L1 I2 L2 (by omega) ⟨q3, hRf, by rw [q2, w2]; exact hRR.2, by omega⟩)
theorem cs_family {G : WG} {nm : String} {b m i L : Nat} {K1 K2 K : Nat → Option Kd} {n : Nat × Nat} {Z : Nat × Nat} {Q : Post} {sx : Nat → Int} {Is : MI} {Ps : MP} {Ls : ML} {Y : Int} {Ic : MI} {Pc : MP} {Lc : ML} {Im : MI} {Pm : MP} {Lm : ML} (hX : LX G b L K1 K2 K n sx Is) (hZ : LZ G m K1 K2 n Y Ic Pc Lc Im Pm Lm) (hi : i + 7 ≤ L) (hYi : Y ≤ 20 * (i : Int)) (hN : ∀ (Y' : Int) (Ic' : MI) (Pc' : MP) (Lc' : ML) (Im' : MI) (Lm' : ML), Y' ≤ Y + 20 → LZ G m K1 K2 n Y' Ic' Pc' Lc' Im' Pm Lm' → WL G nm b m i K1 K2 K n Z Q Is Ps Ls 1253 Ic' Pc' Lc' Im' Pm Lm') : WL G nm b m i K1 K2 K n Z Q Is Ps Ls 252 Ic Pc Lc Im Pm Lm := by
  obtain ⟨hs1, hs2, hdi, hKb, hL, hxi, hsc⟩ := hX
  obtain ⟨hYI, hRf, hR, hY0⟩ := hZ
  have hSI := YI_SI (L := Lc) hYI
  have hr0 := hsc Ic Im Pc Y hYI
  have hx1 := hxi (i + 1) (by omega)
  have hx2 := hxi (i + 2) (by omega)
  have hx3 := hxi (i + 3) (by omega)
  have hF : FI (Im (m + 1)) Y := hR.1.2.1
  have hBI : BI (Im (m + 1)) := hR.1.2.2.1
  have hRR := rel_family hR hSI (sx (i + 1)) (sx (i + 2)) (sx (i + 3))
  unfold WL
  refine r_aload_n (pc := 252) dL_law_252 rfl ?_
  refine r_aload_n (pc := 253) dL_law_253 rfl ?_
  refine r_iload_n (pc := 254) dL_law_254 rfl ?_
  refine r_iconst (pc := 255) dL_law_255 ?_
  refine r_iadd (pc := 256) dL_law_256 ?_
  refine r_iald (j := i + 1) (pc := 257) dL_law_257 (by exact hKb) (by omega) (by omega) (by omega) ?_
  rw [hr0 (i + 1) (by omega)]
  refine r_aload_n (pc := 258) dL_law_258 rfl ?_
  refine r_iload_n (pc := 259) dL_law_259 rfl ?_
  refine r_iconst (pc := 260) dL_law_260 ?_
  refine r_iadd (pc := 261) dL_law_261 ?_
  refine r_iald (j := i + 2) (pc := 262) dL_law_262 (by exact hKb) (by omega) (by omega) (by omega) ?_
  rw [hr0 (i + 2) (by omega)]
  refine r_aload_n (pc := 263) dL_law_263 rfl ?_
  refine r_iload_n (pc := 264) dL_law_264 rfl ?_
  refine r_iconst (pc := 265) dL_law_265 ?_
  refine r_iadd (pc := 266) dL_law_266 ?_
  refine r_iald (j := i + 3) (pc := 267) dL_law_267 (by exact hKb) (by omega) (by omega) (by omega) ?_
  rw [hr0 (i + 3) (by omega)]
  refine i_V3if (pc := 268) okX11_family inX11_family selX11_family q365 dL_law_268 (sub_1 hs1 _ _ _ _ _ _ _ _ _) (by exact hYI.1.1) rfl (by decide) (Nat.le_of_ble_eq_true rfl) (sX11_family (G := G) (C := (K1, n)) (I := Ic) (P := Pc) (L := Lc)) (fun r1 I1 P1 L1 hq => ?_)
  dsimp only
  obtain ⟨q1, q2, q3⟩ := hq
  rw [mg_1, mg_1, mg_1]
  have hr1 := hsc I1 Im P1 Y q3
  refine r_aload_n (pc := 271) dL_law_271 rfl ?_
  refine r_aload_n (pc := 272) dL_law_272 rfl ?_
  refine r_iload_n (pc := 273) dL_law_273 rfl ?_
  refine r_iconst (pc := 274) dL_law_274 ?_
  refine r_iadd (pc := 275) dL_law_275 ?_
  refine r_iald (j := i + 1) (pc := 276) dL_law_276 (by exact hKb) (by omega) (by omega) (by omega) ?_
  rw [hr1 (i + 1) (by omega)]
  refine r_aload_n (pc := 277) dL_law_277 rfl ?_
  refine r_iload_n (pc := 278) dL_law_278 rfl ?_
  refine r_iconst (pc := 279) dL_law_279 ?_
  refine r_iadd (pc := 280) dL_law_280 ?_
  refine r_iald (j := i + 2) (pc := 281) dL_law_281 (by exact hKb) (by omega) (by omega) (by omega) ?_
  rw [hr1 (i + 2) (by omega)]
  refine r_aload_n (pc := 282) dL_law_282 rfl ?_
  refine r_iload_n (pc := 283) dL_law_283 rfl ?_
  refine r_iconst (pc := 284) dL_law_284 ?_
  refine r_iadd (pc := 285) dL_law_285 ?_
  refine r_iald (j := i + 3) (pc := 286) dL_law_286 (by exact hKb) (by omega) (by omega) (by omega) ?_
  rw [hr1 (i + 3) (by omega)]
  refine i_V3if (pc := 287) okX12_family inX12_family selX12_family q1111 dL_law_287 (sub_2 hdi hs2 _ _ _ _ _ _ _ _ _) (by exact hRf.2.1) rfl (by decide) (Nat.le_of_ble_eq_true rfl) (sX12_family (G := G) (C := (K2, n)) (I := Im) (P := Pm) (L := Lm)) (fun r2 I2 P2 L2 hq => ?_)
  dsimp only
  obtain ⟨w1, w2, w3⟩ := hq
  rw [mg_2 hdi, mg_2 hdi, mg_2 hdi]
  subst w3
  have e := q1.trans (hRR.1.trans w1.symm)
  subst e
  exact r_jeq (pc := 290) 1253 dL_law_290 (by decide) (hN Y I1 P1 L1 I2 L2 (by omega) ⟨q3, hRf, by rw [q2, w2]; exact hRR.2, by omega⟩)
theorem cs_job {G : WG} {nm : String} {b m i L : Nat} {K1 K2 K : Nat → Option Kd} {n : Nat × Nat} {Z : Nat × Nat} {Q : Post} {sx : Nat → Int} {Is : MI} {Ps : MP} {Ls : ML} {Y : Int} {Ic : MI} {Pc : MP} {Lc : ML} {Im : MI} {Pm : MP} {Lm : ML} (hX : LX G b L K1 K2 K n sx Is) (hZ : LZ G m K1 K2 n Y Ic Pc Lc Im Pm Lm) (hi : i + 7 ≤ L) (hYi : Y ≤ 20 * (i : Int)) (hN : ∀ (Y' : Int) (Ic' : MI) (Pc' : MP) (Lc' : ML) (Im' : MI) (Lm' : ML), Y' ≤ Y + 20 → LZ G m K1 K2 n Y' Ic' Pc' Lc' Im' Pm Lm' → WL G nm b m i K1 K2 K n Z Q Is Ps Ls 1253 Ic' Pc' Lc' Im' Pm Lm') : WL G nm b m i K1 K2 K n Z Q Is Ps Ls 295 Ic Pc Lc Im Pm Lm := by
  obtain ⟨hs1, hs2, hdi, hKb, hL, hxi, hsc⟩ := hX
  obtain ⟨hYI, hRf, hR, hY0⟩ := hZ
  have hSI := YI_SI (L := Lc) hYI
  have hr0 := hsc Ic Im Pc Y hYI
  have hx1 := hxi (i + 1) (by omega)
  have hx2 := hxi (i + 2) (by omega)
  have hF : FI (Im (m + 1)) Y := hR.1.2.1
  have hBI : BI (Im (m + 1)) := hR.1.2.2.1
  have hRR := rel_job hR hSI (sx (i + 1)) (sx (i + 2))
  unfold WL
  refine r_aload_n (pc := 295) dL_law_295 rfl ?_
  refine r_aload_n (pc := 296) dL_law_296 rfl ?_
  refine r_iload_n (pc := 297) dL_law_297 rfl ?_
  refine r_iconst (pc := 298) dL_law_298 ?_
  refine r_iadd (pc := 299) dL_law_299 ?_
  refine r_iald (j := i + 1) (pc := 300) dL_law_300 (by exact hKb) (by omega) (by omega) (by omega) ?_
  rw [hr0 (i + 1) (by omega)]
  refine r_aload_n (pc := 301) dL_law_301 rfl ?_
  refine r_iload_n (pc := 302) dL_law_302 rfl ?_
  refine r_iconst (pc := 303) dL_law_303 ?_
  refine r_iadd (pc := 304) dL_law_304 ?_
  refine r_iald (j := i + 2) (pc := 305) dL_law_305 (by exact hKb) (by omega) (by omega) (by omega) ?_
  rw [hr0 (i + 2) (by omega)]
  refine i_V2if (pc := 306) okX11_job inX11_job selX11_job q381 dL_law_306 (sub_1 hs1 _ _ _ _ _ _ _ _ _) (by exact hYI.1.1) rfl (by decide) (Nat.le_of_ble_eq_true rfl) (sX11_job (G := G) (C := (K1, n)) (I := Ic) (P := Pc) (L := Lc)) (fun r1 I1 P1 L1 hq => ?_)
  dsimp only
  obtain ⟨q1, q2, q3⟩ := hq
  rw [mg_1, mg_1, mg_1]
  have hr1 := hsc I1 Im P1 Y q3
  refine r_aload_n (pc := 309) dL_law_309 rfl ?_
  refine r_aload_n (pc := 310) dL_law_310 rfl ?_
  refine r_iload_n (pc := 311) dL_law_311 rfl ?_
  refine r_iconst (pc := 312) dL_law_312 ?_
  refine r_iadd (pc := 313) dL_law_313 ?_
  refine r_iald (j := i + 1) (pc := 314) dL_law_314 (by exact hKb) (by omega) (by omega) (by omega) ?_
  rw [hr1 (i + 1) (by omega)]
  refine r_aload_n (pc := 315) dL_law_315 rfl ?_
  refine r_iload_n (pc := 316) dL_law_316 rfl ?_
  refine r_iconst (pc := 317) dL_law_317 ?_
  refine r_iadd (pc := 318) dL_law_318 ?_
  refine r_iald (j := i + 2) (pc := 319) dL_law_319 (by exact hKb) (by omega) (by omega) (by omega) ?_
  rw [hr1 (i + 2) (by omega)]
  refine i_V2if (pc := 320) okX12_job inX12_job selX12_job q1129 dL_law_320 (sub_2 hdi hs2 _ _ _ _ _ _ _ _ _) (by exact hRf.2.1) rfl (by decide) (Nat.le_of_ble_eq_true rfl) (sX12_job (G := G) (C := (K2, n)) (I := Im) (P := Pm) (L := Lm)) (fun r2 I2 P2 L2 hq => ?_)
  dsimp only
  obtain ⟨w1, w2, w3⟩ := hq
  rw [mg_2 hdi, mg_2 hdi, mg_2 hdi]
  subst w3
  have e := q1.trans (hRR.1.trans w1.symm)
  subst e
  exact r_jeq (pc := 323) 1253 dL_law_323 (by decide) (hN Y I1 P1 L1 I2 L2 (by omega) ⟨q3, hRf, by rw [q2, w2]; exact hRR.2, by omega⟩)
theorem cs_type {G : WG} {nm : String} {b m i L : Nat} {K1 K2 K : Nat → Option Kd} {n : Nat × Nat} {Z : Nat × Nat} {Q : Post} {sx : Nat → Int} {Is : MI} {Ps : MP} {Ls : ML} {Y : Int} {Ic : MI} {Pc : MP} {Lc : ML} {Im : MI} {Pm : MP} {Lm : ML} (hX : LX G b L K1 K2 K n sx Is) (hZ : LZ G m K1 K2 n Y Ic Pc Lc Im Pm Lm) (hi : i + 7 ≤ L) (hYi : Y ≤ 20 * (i : Int)) (hN : ∀ (Y' : Int) (Ic' : MI) (Pc' : MP) (Lc' : ML) (Im' : MI) (Lm' : ML), Y' ≤ Y + 20 → LZ G m K1 K2 n Y' Ic' Pc' Lc' Im' Pm Lm' → WL G nm b m i K1 K2 K n Z Q Is Ps Ls 1253 Ic' Pc' Lc' Im' Pm Lm') : WL G nm b m i K1 K2 K n Z Q Is Ps Ls 328 Ic Pc Lc Im Pm Lm := by
  obtain ⟨hs1, hs2, hdi, hKb, hL, hxi, hsc⟩ := hX
  obtain ⟨hYI, hRf, hR, hY0⟩ := hZ
  have hSI := YI_SI (L := Lc) hYI
  have hr0 := hsc Ic Im Pc Y hYI
  have hx1 := hxi (i + 1) (by omega)
  have hF : FI (Im (m + 1)) Y := hR.1.2.1
  have hBI : BI (Im (m + 1)) := hR.1.2.2.1
  obtain ⟨n0, hn0, h150⟩ : ∃ n0 : Nat, Im m 11 = (n0 : Int) ∧ n0 ≤ 150 := by
    have e1 : Im m 11 = Ic (gB G + 1) 2 := hR.2.2.2.2.1
    have e2 : 0 ≤ Ic (gB G + 1) 2 ∧ Ic (gB G + 1) 2 ≤ 150 := hSI.2.2.2.2.2.2
    exact ⟨(Im m 11).toNat, by omega, by omega⟩
  have hRR := rel_type hR (sx (i + 1))
  unfold WL
  refine r_aload_n (pc := 328) dL_law_328 rfl ?_
  refine r_aload_n (pc := 329) dL_law_329 rfl ?_
  refine r_iload_n (pc := 330) dL_law_330 rfl ?_
  refine r_iconst (pc := 331) dL_law_331 ?_
  refine r_iadd (pc := 332) dL_law_332 ?_
  refine r_iald (j := i + 1) (pc := 333) dL_law_333 (by exact hKb) (by omega) (by omega) (by omega) ?_
  rw [hr0 (i + 1) (by omega)]
  refine i_V1if (pc := 334) okX11_type inX11_type selX11_type q390 dL_law_334 (sub_1 hs1 _ _ _ _ _ _ _ _ _) (by exact hYI.1.1) rfl (by decide) (Nat.le_of_ble_eq_true rfl) (sX11_type (G := G) (C := (K1, n)) (I := Ic) (P := Pc) (L := Lc)) (fun r1 I1 P1 L1 hq => ?_)
  dsimp only
  obtain ⟨q1, q2, q3⟩ := hq
  rw [mg_1, mg_1, mg_1]
  have hr1 := hsc I1 Im P1 Y q3
  refine r_aload_n (pc := 337) dL_law_337 rfl ?_
  refine r_aload_n (pc := 338) dL_law_338 rfl ?_
  refine r_iload_n (pc := 339) dL_law_339 rfl ?_
  refine r_iconst (pc := 340) dL_law_340 ?_
  refine r_iadd (pc := 341) dL_law_341 ?_
  refine r_iald (j := i + 1) (pc := 342) dL_law_342 (by exact hKb) (by omega) (by omega) (by omega) ?_
  rw [hr1 (i + 1) (by omega)]
  refine i_V1if (pc := 343) okX12_type inX12_type selX12_type q1383 dL_law_343 (sub_2 hdi hs2 _ _ _ _ _ _ _ _ _) (by exact hRf.2.1) rfl (by decide) (Nat.le_of_ble_eq_true rfl) (sX12_type (G := G) (C := (K2, n)) (I := Im) (P := Pm) (L := Lm) (n := n0) (hn := hn0) (h150 := h150)) (fun r2 I2 P2 L2 hq => ?_)
  dsimp only
  obtain ⟨w1, w2, w3⟩ := hq
  rw [mg_2 hdi, mg_2 hdi, mg_2 hdi]
  subst w3
  have e := q1.trans (hRR.1.trans w1.symm)
  subst e
  exact r_jeq (pc := 346) 1253 dL_law_346 (by decide) (hN Y I1 P1 L1 I2 L2 (by omega) ⟨q3, hRf, by rw [q2, w2]; exact hRR.2, by omega⟩)
theorem cs_clear {G : WG} {nm : String} {b m i L : Nat} {K1 K2 K : Nat → Option Kd} {n : Nat × Nat} {Z : Nat × Nat} {Q : Post} {sx : Nat → Int} {Is : MI} {Ps : MP} {Ls : ML} {Y : Int} {Ic : MI} {Pc : MP} {Lc : ML} {Im : MI} {Pm : MP} {Lm : ML} (hX : LX G b L K1 K2 K n sx Is) (hZ : LZ G m K1 K2 n Y Ic Pc Lc Im Pm Lm) (hi : i + 7 ≤ L) (hYi : Y ≤ 20 * (i : Int)) (hN : ∀ (Y' : Int) (Ic' : MI) (Pc' : MP) (Lc' : ML) (Im' : MI) (Lm' : ML), Y' ≤ Y + 20 → LZ G m K1 K2 n Y' Ic' Pc' Lc' Im' Pm Lm' → WL G nm b m i K1 K2 K n Z Q Is Ps Ls 1253 Ic' Pc' Lc' Im' Pm Lm') : WL G nm b m i K1 K2 K n Z Q Is Ps Ls 351 Ic Pc Lc Im Pm Lm := by
  obtain ⟨hs1, hs2, hdi, hKb, hL, hxi, hsc⟩ := hX
  obtain ⟨hYI, hRf, hR, hY0⟩ := hZ
  have hSI := YI_SI (L := Lc) hYI
  have hr0 := hsc Ic Im Pc Y hYI
  have hF : FI (Im (m + 1)) Y := hR.1.2.1
  have hBI : BI (Im (m + 1)) := hR.1.2.2.1
  have hRR := rel_clear hR
  unfold WL
  refine r_aload_n (pc := 351) dL_law_351 rfl ?_
  refine i_V0if (pc := 352) okX11_clear inX11_clear selX11_clear q401 dL_law_352 (sub_1 hs1 _ _ _ _ _ _ _ _ _) (by exact hYI.1.1) rfl (by decide) (Nat.le_of_ble_eq_true rfl) (sX11_clear (G := G) (C := (K1, n)) (I := Ic) (P := Pc) (L := Lc)) (fun r1 I1 P1 L1 hq => ?_)
  dsimp only
  obtain ⟨q1, q2, q3⟩ := hq
  rw [mg_1, mg_1, mg_1]
  have hr1 := hsc I1 Im P1 Y q3
  refine r_aload_n (pc := 355) dL_law_355 rfl ?_
  refine i_V0if (pc := 356) okX12_clear inX12_clear selX12_clear q1388 dL_law_356 (sub_2 hdi hs2 _ _ _ _ _ _ _ _ _) (by exact hRf.2.1) rfl (by decide) (Nat.le_of_ble_eq_true rfl) (sX12_clear (G := G) (C := (K2, n)) (I := Im) (P := Pm) (L := Lm)) (fun r2 I2 P2 L2 hq => ?_)
  dsimp only
  obtain ⟨w1, w2, w3⟩ := hq
  rw [mg_2 hdi, mg_2 hdi, mg_2 hdi]
  subst w3
  have e := q1.trans (hRR.1.trans w1.symm)
  subst e
  exact r_jeq (pc := 359) 1253 dL_law_359 (by decide) (hN Y I1 P1 L1 I2 L2 (by omega) ⟨q3, hRf, by rw [q2, w2]; exact hRR.2, by omega⟩)
theorem cs_read {G : WG} {nm : String} {b m i L : Nat} {K1 K2 K : Nat → Option Kd} {n : Nat × Nat} {Z : Nat × Nat} {Q : Post} {sx : Nat → Int} {Is : MI} {Ps : MP} {Ls : ML} {Y : Int} {Ic : MI} {Pc : MP} {Lc : ML} {Im : MI} {Pm : MP} {Lm : ML} (hX : LX G b L K1 K2 K n sx Is) (hZ : LZ G m K1 K2 n Y Ic Pc Lc Im Pm Lm) (hi : i + 7 ≤ L) (hYi : Y ≤ 20 * (i : Int)) (hN : ∀ (Y' : Int) (Ic' : MI) (Pc' : MP) (Lc' : ML) (Im' : MI) (Lm' : ML), Y' ≤ Y + 20 → LZ G m K1 K2 n Y' Ic' Pc' Lc' Im' Pm Lm' → WL G nm b m i K1 K2 K n Z Q Is Ps Ls 1253 Ic' Pc' Lc' Im' Pm Lm') : WL G nm b m i K1 K2 K n Z Q Is Ps Ls 364 Ic Pc Lc Im Pm Lm := by
  obtain ⟨hs1, hs2, hdi, hKb, hL, hxi, hsc⟩ := hX
  obtain ⟨hYI, hRf, hR, hY0⟩ := hZ
  have hSI := YI_SI (L := Lc) hYI
  have hr0 := hsc Ic Im Pc Y hYI
  have hF : FI (Im (m + 1)) Y := hR.1.2.1
  have hBI : BI (Im (m + 1)) := hR.1.2.2.1
  obtain ⟨n0, hn0, h150⟩ : ∃ n0 : Nat, Im m 11 = (n0 : Int) ∧ n0 ≤ 150 := by
    have e1 : Im m 11 = Ic (gB G + 1) 2 := hR.2.2.2.2.1
    have e2 : 0 ≤ Ic (gB G + 1) 2 ∧ Ic (gB G + 1) 2 ≤ 150 := hSI.2.2.2.2.2.2
    exact ⟨(Im m 11).toNat, by omega, by omega⟩
  have hbb : ∀ j, j < 150 → 0 ≤ Im (m + 9) j ∧ Im (m + 9) j ≤ 127 := fun j hj => by
    have e1 : Im (m + 9) = Ic (gB G + 2) := hR.2.2.2.1
    obtain ⟨-, -, -, -, -, ⟨n1, r1, r2, r3⟩, -⟩ := hYI
    rw [e1]; exact r3 j hj
  have e0 : (rdM m Im Lm).2.2.2.2.2.1.toNat = n0 := by
    show (Im m 11).toNat = n0; omega
  unfold WL
  refine r_aload_n (pc := 364) dL_law_364 rfl ?_
  refine i_V0if (pc := 365) okX11_read inX11_read selX11_read q405 dL_law_365 (sub_1 hs1 _ _ _ _ _ _ _ _ _) (by exact hYI.1.1) rfl (by decide) (Nat.le_of_ble_eq_true rfl) (sX11_read (G := G) (C := (K1, n)) (I := Ic) (P := Pc) (L := Lc)) (fun r1 I1 P1 L1 hq => ?_)
  dsimp only
  obtain ⟨F, B, t, x, p, hF0, hB0, hq⟩ := hq
  obtain ⟨q1, q2, q3⟩ := hq
  have hRR := rel_read hR hSI hY0 F B t (Im (m + 10)) (Im (m + 11)) x p hF0 hB0
  rw [e0] at hRR
  rw [mg_1, mg_1, mg_1]
  have hr1 := hsc I1 Im P1 Y q3
  refine r_aload_n (pc := 368) dL_law_368 rfl ?_
  refine i_V0if (pc := 369) okX12_read inX12_read selX12_read q1392 dL_law_369 (sub_2 hdi hs2 _ _ _ _ _ _ _ _ _) (by exact hRf.2.1) rfl (by decide) (Nat.le_of_ble_eq_true rfl) (sX12_read (G := G) (C := (K2, n)) (I := Im) (P := Pm) (L := Lm) (n := n0) (hn := hn0) (h150 := h150) (hbb := hbb)) (fun r2 I2 P2 L2 hq => ?_)
  dsimp only
  obtain ⟨w1, w2, w3⟩ := hq
  rw [mg_2 hdi, mg_2 hdi, mg_2 hdi]
  subst w3
  have e := q1.trans (hRR.1.trans w1.symm)
  subst e
  exact r_jeq (pc := 372) 1253 dL_law_372 (by decide) (hN Y I1 P1 L1 I2 L2 (by omega) ⟨q3, hRf, by rw [q2, w2]; exact hRR.2, by omega⟩)
theorem cs_pass {G : WG} {nm : String} {b m i L : Nat} {K1 K2 K : Nat → Option Kd} {n : Nat × Nat} {Z : Nat × Nat} {Q : Post} {sx : Nat → Int} {Is : MI} {Ps : MP} {Ls : ML} {Y : Int} {Ic : MI} {Pc : MP} {Lc : ML} {Im : MI} {Pm : MP} {Lm : ML} (hX : LX G b L K1 K2 K n sx Is) (hZ : LZ G m K1 K2 n Y Ic Pc Lc Im Pm Lm) (hi : i + 7 ≤ L) (hYi : Y ≤ 20 * (i : Int)) (hN : ∀ (Y' : Int) (Ic' : MI) (Pc' : MP) (Lc' : ML) (Im' : MI) (Lm' : ML), Y' ≤ Y + 20 → LZ G m K1 K2 n Y' Ic' Pc' Lc' Im' Pm Lm' → WL G nm b m i K1 K2 K n Z Q Is Ps Ls 1253 Ic' Pc' Lc' Im' Pm Lm') : WL G nm b m i K1 K2 K n Z Q Is Ps Ls 377 Ic Pc Lc Im Pm Lm := by
  obtain ⟨hs1, hs2, hdi, hKb, hL, hxi, hsc⟩ := hX
  obtain ⟨hYI, hRf, hR, hY0⟩ := hZ
  have hSI := YI_SI (L := Lc) hYI
  have hr0 := hsc Ic Im Pc Y hYI
  have hx1 := hxi (i + 1) (by omega)
  have hF : FI (Im (m + 1)) Y := hR.1.2.1
  have hBI : BI (Im (m + 1)) := hR.1.2.2.1
  have hu : 0 ≤ Im (m + 1) 115 ∧ Im (m + 1) 115 ≤ 6 := hR.1.2.2.2.1
  have hRR := rel_pass hR hSI (sx (i + 1))
  unfold WL
  refine r_aload_n (pc := 377) dL_law_377 rfl ?_
  refine r_aload_n (pc := 378) dL_law_378 rfl ?_
  refine r_iload_n (pc := 379) dL_law_379 rfl ?_
  refine r_iconst (pc := 380) dL_law_380 ?_
  refine r_iadd (pc := 381) dL_law_381 ?_
  refine r_iald (j := i + 1) (pc := 382) dL_law_382 (by exact hKb) (by omega) (by omega) (by omega) ?_
  rw [hr0 (i + 1) (by omega)]
  refine i_V1if (pc := 383) okX11_pass inX11_pass selX11_pass q549 dL_law_383 (sub_1 hs1 _ _ _ _ _ _ _ _ _) (by exact hYI.1.1) rfl (by decide) (Nat.le_of_ble_eq_true rfl) (sX11_pass (G := G) (C := (K1, n)) (I := Ic) (P := Pc) (L := Lc)) (fun r1 I1 P1 L1 hq => ?_)
  dsimp only
  obtain ⟨q1, q2, q3⟩ := hq
  rw [mg_1, mg_1, mg_1]
  have hr1 := hsc I1 Im P1 (Y + 20) q3
  refine r_aload_n (pc := 386) dL_law_386 rfl ?_
  refine r_aload_n (pc := 387) dL_law_387 rfl ?_
  refine r_iload_n (pc := 388) dL_law_388 rfl ?_
  refine r_iconst (pc := 389) dL_law_389 ?_
  refine r_iadd (pc := 390) dL_law_390 ?_
  refine r_iald (j := i + 1) (pc := 391) dL_law_391 (by exact hKb) (by omega) (by omega) (by omega) ?_
  rw [hr1 (i + 1) (by omega)]
  refine i_V1if (pc := 392) okX12_pass inX12_pass selX12_pass q1141 dL_law_392 (sub_2 hdi hs2 _ _ _ _ _ _ _ _ _) (by exact hRf.2.1) rfl (by decide) (Nat.le_of_ble_eq_true rfl) (sX12_pass (G := G) (C := (K2, n)) (I := Im) (P := Pm) (L := Lm)) (fun r2 I2 P2 L2 hq => ?_)
  dsimp only
  obtain ⟨w1, w2, w3⟩ := hq
  rw [mg_2 hdi, mg_2 hdi, mg_2 hdi]
  subst w3
  have e := q1.trans (hRR.1.trans w1.symm)
  subst e
  exact r_jeq (pc := 395) 1253 dL_law_395 (by decide) (hN (Y + 20) I1 P1 L1 I2 L2 (by omega) ⟨q3, hRf, by rw [q2, w2]; exact hRR.2, by omega⟩)
theorem cs_undo {G : WG} {nm : String} {b m i L : Nat} {K1 K2 K : Nat → Option Kd} {n : Nat × Nat} {Z : Nat × Nat} {Q : Post} {sx : Nat → Int} {Is : MI} {Ps : MP} {Ls : ML} {Y : Int} {Ic : MI} {Pc : MP} {Lc : ML} {Im : MI} {Pm : MP} {Lm : ML} (hX : LX G b L K1 K2 K n sx Is) (hZ : LZ G m K1 K2 n Y Ic Pc Lc Im Pm Lm) (hi : i + 7 ≤ L) (hYi : Y ≤ 20 * (i : Int)) (hN : ∀ (Y' : Int) (Ic' : MI) (Pc' : MP) (Lc' : ML) (Im' : MI) (Lm' : ML), Y' ≤ Y + 20 → LZ G m K1 K2 n Y' Ic' Pc' Lc' Im' Pm Lm' → WL G nm b m i K1 K2 K n Z Q Is Ps Ls 1253 Ic' Pc' Lc' Im' Pm Lm') : WL G nm b m i K1 K2 K n Z Q Is Ps Ls 400 Ic Pc Lc Im Pm Lm := by
  obtain ⟨hs1, hs2, hdi, hKb, hL, hxi, hsc⟩ := hX
  obtain ⟨hYI, hRf, hR, hY0⟩ := hZ
  have hSI := YI_SI (L := Lc) hYI
  have hr0 := hsc Ic Im Pc Y hYI
  have hF : FI (Im (m + 1)) Y := hR.1.2.1
  have hBI : BI (Im (m + 1)) := hR.1.2.2.1
  have hu : 0 ≤ Im (m + 1) 115 ∧ Im (m + 1) 115 ≤ 6 := hR.1.2.2.2.1
  have hpF : ¬ Im (m + 1) 115 = 0 → FI (pF (Im (m + 1)) (116 + 20 * (Im (m + 1) 115 - 1).toNat)) Y := fun h0 => hR.1.2.2.2.2 _ (by show (((Im (m + 1) 115 - 1).toNat : Nat) : Int) < Im (m + 1) 115; omega)
  have hRR := rel_undo hR hSI
  unfold WL
  refine r_aload_n (pc := 400) dL_law_400 rfl ?_
  refine i_V0if (pc := 401) okX11_undo inX11_undo selX11_undo q694 dL_law_401 (sub_1 hs1 _ _ _ _ _ _ _ _ _) (by exact hYI.1.1) rfl (by decide) (Nat.le_of_ble_eq_true rfl) (sX11_undo (G := G) (C := (K1, n)) (I := Ic) (P := Pc) (L := Lc)) (fun r1 I1 P1 L1 hq => ?_)
  dsimp only
  obtain ⟨q1, q2, q3⟩ := hq
  rw [mg_1, mg_1, mg_1]
  have hr1 := hsc I1 Im P1 Y q3
  refine r_aload_n (pc := 404) dL_law_404 rfl ?_
  refine i_V0if (pc := 405) okX12_undo inX12_undo selX12_undo q1199 dL_law_405 (sub_2 hdi hs2 _ _ _ _ _ _ _ _ _) (by exact hRf.2.1) rfl (by decide) (Nat.le_of_ble_eq_true rfl) (sX12_undo (G := G) (C := (K2, n)) (I := Im) (P := Pm) (L := Lm)) (fun r2 I2 P2 L2 hq => ?_)
  dsimp only
  obtain ⟨w1, w2, w3⟩ := hq
  rw [mg_2 hdi, mg_2 hdi, mg_2 hdi]
  subst w3
  have e := q1.trans (hRR.1.trans w1.symm)
  subst e
  exact r_jeq (pc := 408) 1253 dL_law_408 (by decide) (hN Y I1 P1 L1 I2 L2 (by omega) ⟨q3, hRf, by rw [q2, w2]; exact hRR.2, by omega⟩)
theorem cs_about {G : WG} {nm : String} {b m i L : Nat} {K1 K2 K : Nat → Option Kd} {n : Nat × Nat} {Z : Nat × Nat} {Q : Post} {sx : Nat → Int} {Is : MI} {Ps : MP} {Ls : ML} {Y : Int} {Ic : MI} {Pc : MP} {Lc : ML} {Im : MI} {Pm : MP} {Lm : ML} (hX : LX G b L K1 K2 K n sx Is) (hZ : LZ G m K1 K2 n Y Ic Pc Lc Im Pm Lm) (hi : i + 7 ≤ L) (hYi : Y ≤ 20 * (i : Int)) (hN : ∀ (Y' : Int) (Ic' : MI) (Pc' : MP) (Lc' : ML) (Im' : MI) (Lm' : ML), Y' ≤ Y + 20 → LZ G m K1 K2 n Y' Ic' Pc' Lc' Im' Pm Lm' → WL G nm b m i K1 K2 K n Z Q Is Ps Ls 1253 Ic' Pc' Lc' Im' Pm Lm') : WL G nm b m i K1 K2 K n Z Q Is Ps Ls 413 Ic Pc Lc Im Pm Lm := by
  obtain ⟨hs1, hs2, hdi, hKb, hL, hxi, hsc⟩ := hX
  obtain ⟨hYI, hRf, hR, hY0⟩ := hZ
  have hSI := YI_SI (L := Lc) hYI
  have hr0 := hsc Ic Im Pc Y hYI
  have hx1 := hxi (i + 1) (by omega)
  have hx2 := hxi (i + 2) (by omega)
  have hF : FI (Im (m + 1)) Y := hR.1.2.1
  have hBI : BI (Im (m + 1)) := hR.1.2.2.1
  have hRR := rel_about hR hSI (sx (i + 1)) (sx (i + 2))
  unfold WL
  refine r_aload_n (pc := 413) dL_law_413 rfl ?_
  refine r_aload_n (pc := 414) dL_law_414 rfl ?_
  refine r_iload_n (pc := 415) dL_law_415 rfl ?_
  refine r_iconst (pc := 416) dL_law_416 ?_
  refine r_iadd (pc := 417) dL_law_417 ?_
  refine r_iald (j := i + 1) (pc := 418) dL_law_418 (by exact hKb) (by omega) (by omega) (by omega) ?_
  rw [hr0 (i + 1) (by omega)]
  refine r_aload_n (pc := 419) dL_law_419 rfl ?_
  refine r_iload_n (pc := 420) dL_law_420 rfl ?_
  refine r_iconst (pc := 421) dL_law_421 ?_
  refine r_iadd (pc := 422) dL_law_422 ?_
  refine r_iald (j := i + 2) (pc := 423) dL_law_423 (by exact hKb) (by omega) (by omega) (by omega) ?_
  rw [hr0 (i + 2) (by omega)]
  refine i_V2if (pc := 424) okX11_about inX11_about selX11_about q710 dL_law_424 (sub_1 hs1 _ _ _ _ _ _ _ _ _) (by exact hYI.1.1) rfl (by decide) (Nat.le_of_ble_eq_true rfl) (sX11_about (G := G) (C := (K1, n)) (I := Ic) (P := Pc) (L := Lc)) (fun r1 I1 P1 L1 hq => ?_)
  dsimp only
  obtain ⟨q1, q2, q3⟩ := hq
  rw [mg_1, mg_1, mg_1]
  have hr1 := hsc I1 Im P1 Y q3
  refine r_aload_n (pc := 427) dL_law_427 rfl ?_
  refine r_aload_n (pc := 428) dL_law_428 rfl ?_
  refine r_iload_n (pc := 429) dL_law_429 rfl ?_
  refine r_iconst (pc := 430) dL_law_430 ?_
  refine r_iadd (pc := 431) dL_law_431 ?_
  refine r_iald (j := i + 1) (pc := 432) dL_law_432 (by exact hKb) (by omega) (by omega) (by omega) ?_
  rw [hr1 (i + 1) (by omega)]
  refine r_aload_n (pc := 433) dL_law_433 rfl ?_
  refine r_iload_n (pc := 434) dL_law_434 rfl ?_
  refine r_iconst (pc := 435) dL_law_435 ?_
  refine r_iadd (pc := 436) dL_law_436 ?_
  refine r_iald (j := i + 2) (pc := 437) dL_law_437 (by exact hKb) (by omega) (by omega) (by omega) ?_
  rw [hr1 (i + 2) (by omega)]
  refine i_V2if (pc := 438) okX12_about inX12_about selX12_about q1207 dL_law_438 (sub_2 hdi hs2 _ _ _ _ _ _ _ _ _) (by exact hRf.2.1) rfl (by decide) (Nat.le_of_ble_eq_true rfl) (sX12_about (G := G) (C := (K2, n)) (I := Im) (P := Pm) (L := Lm)) (fun r2 I2 P2 L2 hq => ?_)
  dsimp only
  obtain ⟨w1, w2, w3⟩ := hq
  rw [mg_2 hdi, mg_2 hdi, mg_2 hdi]
  subst w3
  have e := q1.trans (hRR.1.trans w1.symm)
  subst e
  exact r_jeq (pc := 441) 1253 dL_law_441 (by decide) (hN Y I1 P1 L1 I2 L2 (by omega) ⟨q3, hRf, by rw [q2, w2]; exact hRR.2, by omega⟩)
theorem cs_eats {G : WG} {nm : String} {b m i L : Nat} {K1 K2 K : Nat → Option Kd} {n : Nat × Nat} {Z : Nat × Nat} {Q : Post} {sx : Nat → Int} {Is : MI} {Ps : MP} {Ls : ML} {Y : Int} {Ic : MI} {Pc : MP} {Lc : ML} {Im : MI} {Pm : MP} {Lm : ML} (hX : LX G b L K1 K2 K n sx Is) (hZ : LZ G m K1 K2 n Y Ic Pc Lc Im Pm Lm) (hi : i + 7 ≤ L) (hYi : Y ≤ 20 * (i : Int)) (hN : ∀ (Y' : Int) (Ic' : MI) (Pc' : MP) (Lc' : ML) (Im' : MI) (Lm' : ML), Y' ≤ Y + 20 → LZ G m K1 K2 n Y' Ic' Pc' Lc' Im' Pm Lm' → WL G nm b m i K1 K2 K n Z Q Is Ps Ls 1253 Ic' Pc' Lc' Im' Pm Lm') : WL G nm b m i K1 K2 K n Z Q Is Ps Ls 446 Ic Pc Lc Im Pm Lm := by
  obtain ⟨hs1, hs2, hdi, hKb, hL, hxi, hsc⟩ := hX
  obtain ⟨hYI, hRf, hR, hY0⟩ := hZ
  have hSI := YI_SI (L := Lc) hYI
  have hr0 := hsc Ic Im Pc Y hYI
  have hx1 := hxi (i + 1) (by omega)
  have hx2 := hxi (i + 2) (by omega)
  have hF : FI (Im (m + 1)) Y := hR.1.2.1
  have hBI : BI (Im (m + 1)) := hR.1.2.2.1
  have hRR := rel_eats hR hSI (sx (i + 1)) (sx (i + 2))
  unfold WL
  refine r_aload_n (pc := 446) dL_law_446 rfl ?_
  refine r_aload_n (pc := 447) dL_law_447 rfl ?_
  refine r_iload_n (pc := 448) dL_law_448 rfl ?_
  refine r_iconst (pc := 449) dL_law_449 ?_
  refine r_iadd (pc := 450) dL_law_450 ?_
  refine r_iald (j := i + 1) (pc := 451) dL_law_451 (by exact hKb) (by omega) (by omega) (by omega) ?_
  rw [hr0 (i + 1) (by omega)]
  refine r_aload_n (pc := 452) dL_law_452 rfl ?_
  refine r_iload_n (pc := 453) dL_law_453 rfl ?_
  refine r_iconst (pc := 454) dL_law_454 ?_
  refine r_iadd (pc := 455) dL_law_455 ?_
  refine r_iald (j := i + 2) (pc := 456) dL_law_456 (by exact hKb) (by omega) (by omega) (by omega) ?_
  rw [hr0 (i + 2) (by omega)]
  refine i_V2if (pc := 457) okX11_eats inX11_eats selX11_eats q714 dL_law_457 (sub_1 hs1 _ _ _ _ _ _ _ _ _) (by exact hYI.1.1) rfl (by decide) (Nat.le_of_ble_eq_true rfl) (sX11_eats (G := G) (C := (K1, n)) (I := Ic) (P := Pc) (L := Lc)) (fun r1 I1 P1 L1 hq => ?_)
  dsimp only
  obtain ⟨q1, q2, q3⟩ := hq
  rw [mg_1, mg_1, mg_1]
  have hr1 := hsc I1 Im P1 Y q3
  refine r_aload_n (pc := 460) dL_law_460 rfl ?_
  refine r_aload_n (pc := 461) dL_law_461 rfl ?_
  refine r_iload_n (pc := 462) dL_law_462 rfl ?_
  refine r_iconst (pc := 463) dL_law_463 ?_
  refine r_iadd (pc := 464) dL_law_464 ?_
  refine r_iald (j := i + 1) (pc := 465) dL_law_465 (by exact hKb) (by omega) (by omega) (by omega) ?_
  rw [hr1 (i + 1) (by omega)]
  refine r_aload_n (pc := 466) dL_law_466 rfl ?_
  refine r_iload_n (pc := 467) dL_law_467 rfl ?_
  refine r_iconst (pc := 468) dL_law_468 ?_
  refine r_iadd (pc := 469) dL_law_469 ?_
  refine r_iald (j := i + 2) (pc := 470) dL_law_470 (by exact hKb) (by omega) (by omega) (by omega) ?_
  rw [hr1 (i + 2) (by omega)]
  refine i_V2if (pc := 471) okX12_eats inX12_eats selX12_eats q1211 dL_law_471 (sub_2 hdi hs2 _ _ _ _ _ _ _ _ _) (by exact hRf.2.1) rfl (by decide) (Nat.le_of_ble_eq_true rfl) (sX12_eats (G := G) (C := (K2, n)) (I := Im) (P := Pm) (L := Lm)) (fun r2 I2 P2 L2 hq => ?_)
  dsimp only
  obtain ⟨w1, w2, w3⟩ := hq
  rw [mg_2 hdi, mg_2 hdi, mg_2 hdi]
  subst w3
  have e := q1.trans (hRR.1.trans w1.symm)
  subst e
  exact r_jeq (pc := 474) 1253 dL_law_474 (by decide) (hN Y I1 P1 L1 I2 L2 (by omega) ⟨q3, hRf, by rw [q2, w2]; exact hRR.2, by omega⟩)
theorem cs_fields {G : WG} {nm : String} {b m i L : Nat} {K1 K2 K : Nat → Option Kd} {n : Nat × Nat} {Z : Nat × Nat} {Q : Post} {sx : Nat → Int} {Is : MI} {Ps : MP} {Ls : ML} {Y : Int} {Ic : MI} {Pc : MP} {Lc : ML} {Im : MI} {Pm : MP} {Lm : ML} (hX : LX G b L K1 K2 K n sx Is) (hZ : LZ G m K1 K2 n Y Ic Pc Lc Im Pm Lm) (hi : i + 7 ≤ L) (hYi : Y ≤ 20 * (i : Int)) (hN : ∀ (Y' : Int) (Ic' : MI) (Pc' : MP) (Lc' : ML) (Im' : MI) (Lm' : ML), Y' ≤ Y + 20 → LZ G m K1 K2 n Y' Ic' Pc' Lc' Im' Pm Lm' → WL G nm b m i K1 K2 K n Z Q Is Ps Ls 1253 Ic' Pc' Lc' Im' Pm Lm') : WL G nm b m i K1 K2 K n Z Q Is Ps Ls 479 Ic Pc Lc Im Pm Lm := by
  obtain ⟨hs1, hs2, hdi, hKb, hL, hxi, hsc⟩ := hX
  obtain ⟨hYI, hRf, hR, hY0⟩ := hZ
  have hSI := YI_SI (L := Lc) hYI
  have hr0 := hsc Ic Im Pc Y hYI
  have hF : FI (Im (m + 1)) Y := hR.1.2.1
  have hBI : BI (Im (m + 1)) := hR.1.2.2.1
  have hRR := rel_fields hR hSI
  unfold WL
  refine r_aload_n (pc := 479) dL_law_479 rfl ?_
  refine i_V0if (pc := 480) okX11_fields inX11_fields selX11_fields q720 dL_law_480 (sub_1 hs1 _ _ _ _ _ _ _ _ _) (by exact hYI.1.1) rfl (by decide) (Nat.le_of_ble_eq_true rfl) (sX11_fields (G := G) (C := (K1, n)) (I := Ic) (P := Pc) (L := Lc)) (fun r1 I1 P1 L1 hq => ?_)
  dsimp only
  obtain ⟨q1, q2, q3⟩ := hq
  rw [mg_1, mg_1, mg_1]
  have hr1 := hsc I1 Im P1 Y q3
  refine r_aload_n (pc := 483) dL_law_483 rfl ?_
  refine i_V0if (pc := 484) okX12_fields inX12_fields selX12_fields q1215 dL_law_484 (sub_2 hdi hs2 _ _ _ _ _ _ _ _ _) (by exact hRf.2.1) rfl (by decide) (Nat.le_of_ble_eq_true rfl) (sX12_fields (G := G) (C := (K2, n)) (I := Im) (P := Pm) (L := Lm)) (fun r2 I2 P2 L2 hq => ?_)
  dsimp only
  obtain ⟨w1, w2, w3⟩ := hq
  rw [mg_2 hdi, mg_2 hdi, mg_2 hdi]
  subst w3
  have e := q1.trans (hRR.1.trans w1.symm)
  subst e
  exact r_jeq (pc := 487) 1253 dL_law_487 (by decide) (hN Y I1 P1 L1 I2 L2 (by omega) ⟨q3, hRf, by rw [q2, w2]; exact hRR.2, by omega⟩)
theorem cs_plan {G : WG} {nm : String} {b m i L : Nat} {K1 K2 K : Nat → Option Kd} {n : Nat × Nat} {Z : Nat × Nat} {Q : Post} {sx : Nat → Int} {Is : MI} {Ps : MP} {Ls : ML} {Y : Int} {Ic : MI} {Pc : MP} {Lc : ML} {Im : MI} {Pm : MP} {Lm : ML} (hX : LX G b L K1 K2 K n sx Is) (hZ : LZ G m K1 K2 n Y Ic Pc Lc Im Pm Lm) (hi : i + 7 ≤ L) (hYi : Y ≤ 20 * (i : Int)) (hN : ∀ (Y' : Int) (Ic' : MI) (Pc' : MP) (Lc' : ML) (Im' : MI) (Lm' : ML), Y' ≤ Y + 20 → LZ G m K1 K2 n Y' Ic' Pc' Lc' Im' Pm Lm' → WL G nm b m i K1 K2 K n Z Q Is Ps Ls 1253 Ic' Pc' Lc' Im' Pm Lm') : WL G nm b m i K1 K2 K n Z Q Is Ps Ls 492 Ic Pc Lc Im Pm Lm := by
  obtain ⟨hs1, hs2, hdi, hKb, hL, hxi, hsc⟩ := hX
  obtain ⟨hYI, hRf, hR, hY0⟩ := hZ
  have hSI := YI_SI (L := Lc) hYI
  have hr0 := hsc Ic Im Pc Y hYI
  have hx1 := hxi (i + 1) (by omega)
  have hx2 := hxi (i + 2) (by omega)
  have hF : FI (Im (m + 1)) Y := hR.1.2.1
  have hBI : BI (Im (m + 1)) := hR.1.2.2.1
  unfold WL
  refine r_aload_n (pc := 492) dL_law_492 rfl ?_
  refine r_aload_n (pc := 493) dL_law_493 rfl ?_
  refine r_iload_n (pc := 494) dL_law_494 rfl ?_
  refine r_iconst (pc := 495) dL_law_495 ?_
  refine r_iadd (pc := 496) dL_law_496 ?_
  refine r_iald (j := i + 1) (pc := 497) dL_law_497 (by exact hKb) (by omega) (by omega) (by omega) ?_
  rw [hr0 (i + 1) (by omega)]
  refine r_aload_n (pc := 498) dL_law_498 rfl ?_
  refine r_iload_n (pc := 499) dL_law_499 rfl ?_
  refine r_iconst (pc := 500) dL_law_500 ?_
  refine r_iadd (pc := 501) dL_law_501 ?_
  refine r_iald (j := i + 2) (pc := 502) dL_law_502 (by exact hKb) (by omega) (by omega) (by omega) ?_
  rw [hr0 (i + 2) (by omega)]
  refine i_V2if (pc := 503) okX11_plan inX11_plan selX11_plan q725 dL_law_503 (sub_1 hs1 _ _ _ _ _ _ _ _ _) (by exact hYI.1.1) rfl (by decide) (Nat.le_of_ble_eq_true rfl) (sX11_plan (G := G) (C := (K1, n)) (I := Ic) (P := Pc) (L := Lc)) (fun r1 I1 P1 L1 hq => ?_)
  dsimp only
  obtain ⟨pa, pb, hq⟩ := hq
  obtain ⟨q1, q2, q3⟩ := hq
  have hRR := rel_plan hR hSI (sx (i + 1)) (sx (i + 2)) pa pb
  rw [mg_1, mg_1, mg_1]
  have hr1 := hsc I1 Im P1 Y q3
  refine r_aload_n (pc := 506) dL_law_506 rfl ?_
  refine r_aload_n (pc := 507) dL_law_507 rfl ?_
  refine r_iload_n (pc := 508) dL_law_508 rfl ?_
  refine r_iconst (pc := 509) dL_law_509 ?_
  refine r_iadd (pc := 510) dL_law_510 ?_
  refine r_iald (j := i + 1) (pc := 511) dL_law_511 (by exact hKb) (by omega) (by omega) (by omega) ?_
  rw [hr1 (i + 1) (by omega)]
  refine r_aload_n (pc := 512) dL_law_512 rfl ?_
  refine r_iload_n (pc := 513) dL_law_513 rfl ?_
  refine r_iconst (pc := 514) dL_law_514 ?_
  refine r_iadd (pc := 515) dL_law_515 ?_
  refine r_iald (j := i + 2) (pc := 516) dL_law_516 (by exact hKb) (by omega) (by omega) (by omega) ?_
  rw [hr1 (i + 2) (by omega)]
  refine i_V2if (pc := 517) okX12_plan inX12_plan selX12_plan q1219 dL_law_517 (sub_2 hdi hs2 _ _ _ _ _ _ _ _ _) (by exact hRf.2.1) rfl (by decide) (Nat.le_of_ble_eq_true rfl) (sX12_plan (G := G) (C := (K2, n)) (I := Im) (P := Pm) (L := Lm)) (fun r2 I2 P2 L2 hq => ?_)
  dsimp only
  obtain ⟨w1, w2, w3⟩ := hq
  rw [mg_2 hdi, mg_2 hdi, mg_2 hdi]
  subst w3
  have e := q1.trans (hRR.1.trans w1.symm)
  subst e
  exact r_jeq (pc := 520) 1253 dL_law_520 (by decide) (hN Y I1 P1 L1 I2 L2 (by omega) ⟨q3, hRf, by rw [q2, w2]; exact hRR.2, by omega⟩)

