/-! the reference: tokens -/
def kM (so : Int) : Int := if so = 1 then 3 else if so = 2 then 1 else if so = 3 then 2 else so
def QK (m n : Nat) (T : Nat × Nat × Int) (v : Int) (I : MI) (P : MP) (L : ML) : MI → MP → ML → Prop := fun I1 P1 L1 => (∃ W, I1 = uR I m W ∧ W 11 = (n : Int) ∧ W 12 = (T.1 : Int) ∧ W 13 = (T.2.1 : Int) - (T.1 : Int) ∧ W 14 = kM T.2.2 ∧ (T.2.2 = 3 → W 15 = v) ∧ W 4 = I m 4) ∧ P = P1 ∧ L = L1
theorem skp_st (b : Nat → Int) (d p : Nat) : skp b (d + 1) p = if b p = 32 then skp b d (p + 1) else p := rfl
theorem runB_st (q : Int → Bool) (b : Nat → Int) (d p : Nat) : runB q b (d + 1) p = if q (b p) = true then runB q b d (p + 1) else p := rfl
theorem numV_st (b : Nat → Int) (s k : Nat) : numV b s (k + 1) = 10 * numV b s k + b (s + k) - 48 := rfl
theorem tok_eq (b : Nat → Int) (n a : Nat) : tok b n a = if n ≤ skp b (n - a) a then (skp b (n - a) a, n, 0) else if b (skp b (n - a) a) = 59 then (skp b (n - a) a, skp b (n - a) a + 1, 1) else if isLet (b (skp b (n - a) a)) = true then (skp b (n - a) a, runB isLet b (n - (skp b (n - a) a + 1)) (skp b (n - a) a + 1), 2) else if isFig (b (skp b (n - a) a)) = true then (skp b (n - a) a, runB isFig b (n - skp b (n - a) a) (skp b (n - a) a), if runB isFig b (n - skp b (n - a) a) (skp b (n - a) a) - skp b (n - a) a ≤ 4 then 3 else 4) else (skp b (n - a) a, skp b (n - a) a + 1, 4) := rfl
section REF11
variable {G : WG} {C : CF} {I : MI} {P : MP} {L : ML} {m n : Nat} {Y : Int}
theorem sX12_isSmall {c : Int} (hc : iR c := by omega) : SX12_isSmall G [.int (zI c)] C I P L (NI C (XI (if isLet c = true then 1 else 0) I P L)) := by
  refine en_I (by decide +kernel) (Nat.le_of_ble_eq_true rfl) ?_
  change Wd _ _ _ _ _ _ _ _ 0 [some _] [] _ _ _ _
  refine r_iload_n (pc := 0) dX12_isSmall_0 rfl ?_
  refine r_i2l (pc := 1) dX12_isSmall_1 (by omega) ?_
  refine r_ldc2_w (v := (97 : Int)) (pc := 2) dX12_isSmall_2 kcX12_243 ?_
  refine r_ldc2_w (v := (122 : Int)) (pc := 5) dX12_isSmall_5 kcX12_245 ?_
  refine i_S3ix (pc := 8) okX12_in staX12_in q1098 dX12_isSmall_8 (by decide) (Nat.le_of_ble_eq_true rfl) (sX12_in) ?_
  refine t_iret (pc := 11) dX12_isSmall_11 rfl (nar_z (by split <;> simp)) ?_
  refine ⟨?_, rfl, rfl, rfl⟩
  unfold isLet
  by_cases h : 97 ≤ c ∧ c ≤ 122
  · rw [if_pos h, if_pos (decide_eq_true h)]
  · rw [if_neg h, if_neg (by rw [decide_eq_true_eq]; exact h)]
theorem sX12_isFigure {c : Int} (hc : iR c := by omega) : SX12_isFigure G [.int (zI c)] C I P L (NI C (XI (if isFig c = true then 1 else 0) I P L)) := by
  refine en_I (by decide +kernel) (Nat.le_of_ble_eq_true rfl) ?_
  change Wd _ _ _ _ _ _ _ _ 0 [some _] [] _ _ _ _
  refine r_iload_n (pc := 0) dX12_isFigure_0 rfl ?_
  refine r_i2l (pc := 1) dX12_isFigure_1 (by omega) ?_
  refine r_ldc2_w (v := (48 : Int)) (pc := 2) dX12_isFigure_2 kcX12_247 ?_
  refine r_ldc2_w (v := (57 : Int)) (pc := 5) dX12_isFigure_5 kcX12_249 ?_
  refine i_S3ix (pc := 8) okX12_in staX12_in q1098 dX12_isFigure_8 (by decide) (Nat.le_of_ble_eq_true rfl) (sX12_in) ?_
  refine t_iret (pc := 11) dX12_isFigure_11 rfl (nar_z (by split <;> simp)) ?_
  refine ⟨?_, rfl, rfl, rfl⟩
  unfold isFig
  by_cases h : 48 ≤ c ∧ c ≤ 57
  · rw [if_pos h, if_pos (decide_eq_true h)]
  · rw [if_neg h, if_neg (by rw [decide_eq_true_eq]; exact h)]
set_option maxHeartbeats 2000000 in
theorem sX12_look {a : Nat} {x : Int} (hm : RfL G C P m := by assumption) (hn : I m 11 = (n : Int) := by assumption) (h150 : n ≤ 150 := by omega) (hbb : ∀ j, j < 150 → 0 ≤ I (m + 9) j ∧ I (m + 9) j ≤ 127 := by assumption) (hx : x = (a : Int) := by first | rfl | omega) (han : a ≤ n := by omega) : SX12_look G [.ref m, .int (zI x)] C I P L (NV C (QK m n (tok (I (m + 9)) n a) (tokV (I (m + 9)) n a) I P L)) := by
  obtain ⟨hBm, hKm, hK1, hK2, hK3, hK4, hK5, hK6, hK7, hK8, hK9, hK10, hK11, hP0, hP1, hP2, hP3, hP6, hP7, hP8, hP9, hP10, hP16, hP17⟩ := id hm
  have hS := skp_in (I (m + 9)) (n - a) a
  have hvd : tokV (I (m + 9)) n a = numV (I (m + 9)) (tok (I (m + 9)) n a).1 ((tok (I (m + 9)) n a).2.1 - (tok (I (m + 9)) n a).1) := rfl
  obtain ⟨b, hb⟩ : ∃ b, b = I (m + 9) := ⟨_, rfl⟩
  rw [← hb] at hbb hS hvd
  generalize hSS : skp b (n - a) a = S at hS
  generalize hT : tok b n a = T at hvd
  generalize hV : tokV b n a = V at hvd
  have nb : ∀ b : Bool, iR (if b = true then 1 else 0) := fun b => by cases b <;> decide
  rw [← hb, hT, hV]
  refine en_V (by decide +kernel) (Nat.le_of_ble_eq_true rfl) ?_
  change Wd _ _ _ _ _ _ _ _ 0 [some _, some _, none, none, none] [] _ _ _ _
  have fin : ∀ (W : Nat → Int) (k len : Int) (w2 w3 w4 : Option Value), W 11 = (n : Int) → W 12 = (S : Int) → W 13 = len → 0 ≤ len → len ≤ 150 → W 14 = k → 0 ≤ k → k ≤ 4 → W 4 = I m 4 → T.1 = S → (T.2.1 : Int) - S = len → (if k = 2 ∧ 4 < len then (4 : Int) else k) = kM T.2.2 → (T.2.2 = 3 → W 15 = V) → Wd G yX12_look cX12_look 5 none 2 (C.2.1 + 0, C.2.2 + 0) (NV C (QK m n T V I P L)) 274 [some (.ref m), some (.int (zI x)), w2, w3, w4] [] C (uR I m W) P L := by
    intro W k len w2 w3 w4 h11 h12 h13 hl0 hl1 h14 hk0 hk4 hw4 ht1 ht2 ht3 hv
    refine r_aload_n (pc := 274) dX12_look_274 rfl ?_
    refine r_aload_n (pc := 275) dX12_look_275 rfl ?_
    refine r_getI (pc := 276) dX12_look_276 frX12_257 (by assumption) ?_
    try simp only [u2_I, uR_uR, uR_app, eq_self, Nat.reduceEqDiff, Nat.add_eq_left, Nat.left_eq_add, ↓reduceIte]
    rw [h14]
    refine r_iconst (pc := 279) dX12_look_279 ?_
    refine r_icmp_ne (pc := 280) 295 dX12_look_280 (by decide) (by omega) (by omega) (fun h280 => ?_) (fun h280 => ?_)
    · skip
      refine r_aload_n (pc := 295) dX12_look_295 rfl ?_
      refine r_getI (pc := 296) dX12_look_296 frX12_257 (by assumption) ?_
      try simp only [u2_I, uR_uR, uR_app, eq_self, Nat.reduceEqDiff, Nat.add_eq_left, Nat.left_eq_add, ↓reduceIte]
      refine r_putI (pc := 299) dX12_look_299 fwX12_257 (by assumption) (by omega) ?_
      try simp only [u2_I, uR_uR, uR_app, eq_self, Nat.reduceEqDiff, Nat.add_eq_left, Nat.left_eq_add, ↓reduceIte]
      refine t_vret (pc := 302) dX12_look_302 rfl ?_
      refine ⟨⟨_, rfl, ?_, ?_, ?_, ?_, ?_, ?_⟩, rfl, rfl⟩
      · rw [up_n _ _ (by decide)]; exact h11
      · rw [up_n _ _ (by decide), ht1]; exact h12
      · rw [up_n _ _ (by decide), h13, ht1]; exact ht2.symm
      · rw [up_s, ← ht3]; first | rw [if_pos (by omega)] | (rw [if_neg (by omega)]; first | rfl | exact h14)
      · intro h; rw [up_n _ _ (by decide)]; exact hv h
      · rw [up_n _ _ (by decide)]; exact hw4
    · skip
      refine r_aload_n (pc := 283) dX12_look_283 rfl ?_
      refine r_getI (pc := 284) dX12_look_284 frX12_254 (by assumption) ?_
      try simp only [u2_I, uR_uR, uR_app, eq_self, Nat.reduceEqDiff, Nat.add_eq_left, Nat.left_eq_add, ↓reduceIte]
      rw [h13]
      refine r_iconst (pc := 287) dX12_look_287 ?_
      refine r_icmp_le (pc := 288) 295 dX12_look_288 (by decide) (by omega) (by omega) (fun h288 => ?_) (fun h288 => ?_)
      · skip
        refine r_aload_n (pc := 295) dX12_look_295 rfl ?_
        refine r_getI (pc := 296) dX12_look_296 frX12_257 (by assumption) ?_
        try simp only [u2_I, uR_uR, uR_app, eq_self, Nat.reduceEqDiff, Nat.add_eq_left, Nat.left_eq_add, ↓reduceIte]
        refine r_putI (pc := 299) dX12_look_299 fwX12_257 (by assumption) (by omega) ?_
        try simp only [u2_I, uR_uR, uR_app, eq_self, Nat.reduceEqDiff, Nat.add_eq_left, Nat.left_eq_add, ↓reduceIte]
        refine t_vret (pc := 302) dX12_look_302 rfl ?_
        refine ⟨⟨_, rfl, ?_, ?_, ?_, ?_, ?_, ?_⟩, rfl, rfl⟩
        · rw [up_n _ _ (by decide)]; exact h11
        · rw [up_n _ _ (by decide), ht1]; exact h12
        · rw [up_n _ _ (by decide), h13, ht1]; exact ht2.symm
        · rw [up_s, ← ht3]; first | rw [if_pos (by omega)] | (rw [if_neg (by omega)]; first | rfl | exact h14)
        · intro h; rw [up_n _ _ (by decide)]; exact hv h
        · rw [up_n _ _ (by decide)]; exact hw4
      · skip
        refine r_iconst (pc := 291) dX12_look_291 ?_
        refine r_goto (pc := 292) 299 dX12_look_292 (by decide) ?_
        refine r_putI (pc := 299) dX12_look_299 fwX12_257 (by assumption) (by omega) ?_
        try simp only [u2_I, uR_uR, uR_app, eq_self, Nat.reduceEqDiff, Nat.add_eq_left, Nat.left_eq_add, ↓reduceIte]
        refine t_vret (pc := 302) dX12_look_302 rfl ?_
        refine ⟨⟨_, rfl, ?_, ?_, ?_, ?_, ?_, ?_⟩, rfl, rfl⟩
        · rw [up_n _ _ (by decide)]; exact h11
        · rw [up_n _ _ (by decide), ht1]; exact h12
        · rw [up_n _ _ (by decide), h13, ht1]; exact ht2.symm
        · rw [up_s, ← ht3]; first | rw [if_pos (by omega)] | (rw [if_neg (by omega)]; first | rfl | exact h14)
        · intro h; rw [up_n _ _ (by decide)]; exact hv h
        · rw [up_n _ _ (by decide)]; exact hw4
  have vals : ∀ (len : Nat), S + len ≤ n → T.1 = S → (T.2.1 : Int) - S = (len : Int) → (if 4 < len then (4 : Int) else 2) = kM T.2.2 → (T.2.2 = 3 → V = numV b S len ∧ len ≤ 4) → ∀ (z o : Nat) (i : Int) (w2 w3 : Int) (W : Nat → Int), o + z = min len 4 → i = (o : Int) → W 11 = (n : Int) → W 12 = (S : Int) → W 13 = (len : Int) → W 14 = 2 → W 15 = numV b S o → W 4 = I m 4 → Wd G yX12_look cX12_look 5 none 2 (C.2.1 + 0, C.2.2 + 0) (NV C (QK m n T V I P L)) 218 [some (.ref m), some (.int (zI x)), some (.int (zI w2)), some (.int (zI w3)), some (.int (zI i))] [] C (uR I m W) P L := by
    intro len hlen ht1 ht2 ht3 hv z
    induction z with
    | zero =>
      intro o i w2 w3 W hd hi h11 h12 h13 h14 h15 hw4
      have ho : o = min len 4 := by omega
      refine r_iload (pc := 218) dX12_look_218 rfl ?_
      refine r_aload_n (pc := 220) dX12_look_220 rfl ?_
      refine r_getI (pc := 221) dX12_look_221 frX12_254 (by assumption) ?_
      try simp only [u2_I, uR_uR, uR_app, eq_self, Nat.reduceEqDiff, Nat.add_eq_left, Nat.left_eq_add, ↓reduceIte]
      rw [h13]
      refine r_icmp_ge (pc := 224) 274 dX12_look_224 (by decide) (by omega) (by omega) (fun h224 => ?_) (fun h224 => ?_)
      · skip
        first
        | (exfalso; omega)
        | (refine fin W 2 len _ _ _ h11 h12 h13 (by omega) (by omega) h14 (by omega) (by omega) hw4 ht1 ht2 ?_ ?_
           · rw [← ht3]; by_cases h4 : 4 < len
             · rw [if_pos ⟨rfl, by omega⟩, if_pos h4]
             · rw [if_neg (by omega), if_neg h4]
           · intro h; obtain ⟨v1, v2⟩ := hv h; rw [h15, v1, show o = len by omega])
      · skip
        refine r_iload (pc := 227) dX12_look_227 rfl ?_
        refine r_iconst (pc := 229) dX12_look_229 ?_
        refine r_icmp_ge (pc := 230) 274 dX12_look_230 (by decide) (by omega) (by omega) (fun h230 => ?_) (fun h230 => ?_)
        · skip
          first
          | (exfalso; omega)
          | (refine fin W 2 len _ _ _ h11 h12 h13 (by omega) (by omega) h14 (by omega) (by omega) hw4 ht1 ht2 ?_ ?_
             · rw [← ht3]; by_cases h4 : 4 < len
               · rw [if_pos ⟨rfl, by omega⟩, if_pos h4]
               · rw [if_neg (by omega), if_neg h4]
             · intro h; obtain ⟨v1, v2⟩ := hv h; rw [h15, v1, show o = len by omega])
        · exfalso; omega
    | succ z ih =>
      intro o i w2 w3 W hd hi h11 h12 h13 h14 h15 hw4
      have hbo := hbb (S + o) (by omega)
      refine r_iload (pc := 218) dX12_look_218 rfl ?_
      refine r_aload_n (pc := 220) dX12_look_220 rfl ?_
      refine r_getI (pc := 221) dX12_look_221 frX12_254 (by assumption) ?_
      try simp only [u2_I, uR_uR, uR_app, eq_self, Nat.reduceEqDiff, Nat.add_eq_left, Nat.left_eq_add, ↓reduceIte]
      rw [h13]
      refine r_icmp_ge (pc := 224) 274 dX12_look_224 (by decide) (by omega) (by omega) (fun h224 => ?_) (fun h224 => ?_)
      · exfalso; omega
      · skip
        refine r_iload (pc := 227) dX12_look_227 rfl ?_
        refine r_iconst (pc := 229) dX12_look_229 ?_
        refine r_icmp_ge (pc := 230) 274 dX12_look_230 (by decide) (by omega) (by omega) (fun h230 => ?_) (fun h230 => ?_)
        · exfalso; omega
        · skip
          refine r_aload_n (pc := 233) dX12_look_233 rfl ?_
          refine r_getI (pc := 234) dX12_look_234 frX12_257 (by assumption) ?_
          try simp only [u2_I, uR_uR, uR_app, eq_self, Nat.reduceEqDiff, Nat.add_eq_left, Nat.left_eq_add, ↓reduceIte]
          rw [h14]
          refine r_iconst (pc := 237) dX12_look_237 ?_
          refine r_icmp_ne (pc := 238) 274 dX12_look_238 (by decide) (by omega) (by omega) (fun h238 => ?_) (fun h238 => ?_)
          · exact absurd rfl h238
          · skip
            refine r_aload_n (pc := 241) dX12_look_241 rfl ?_
            refine r_bipush (pc := 242) dX12_look_242 (by decide) ?_
            refine r_aload_n (pc := 244) dX12_look_244 rfl ?_
            refine r_getI (pc := 245) dX12_look_245 frX12_260 (by assumption) ?_
            try simp only [u2_I, uR_uR, uR_app, eq_self, Nat.reduceEqDiff, Nat.add_eq_left, Nat.left_eq_add, ↓reduceIte]
            rw [h15]
            refine r_imul (pc := 248) dX12_look_248 ?_
            refine r_aload_n (pc := 249) dX12_look_249 rfl ?_
            refine r_getA (pc := 250) dX12_look_250 frX12_39 (by assumption) (by assumption) ?_
            refine r_aload_n (pc := 253) dX12_look_253 rfl ?_
            refine r_getI (pc := 254) dX12_look_254 frX12_251 (by assumption) ?_
            try simp only [u2_I, uR_uR, uR_app, eq_self, Nat.reduceEqDiff, Nat.add_eq_left, Nat.left_eq_add, ↓reduceIte]
            rw [h12]
            refine r_iload (pc := 257) dX12_look_257 rfl ?_
            refine r_iadd (pc := 259) dX12_look_259 ?_
            refine r_iald (j := S + o) (pc := 260) dX12_look_260 (by assumption) (by omega) (by omega) (by omega) ?_
            try simp only [u2_I, uR_uR, uR_app, eq_self, Nat.reduceEqDiff, Nat.add_eq_left, Nat.left_eq_add, ↓reduceIte]
            rw [← hb]
            refine r_iadd (pc := 261) dX12_look_261 ?_
            refine r_bipush (pc := 262) dX12_look_262 (by decide) ?_
            refine r_isub (pc := 264) dX12_look_264 ?_
            refine r_putI (pc := 265) dX12_look_265 fwX12_260 (by assumption) (by omega) ?_
            try simp only [u2_I, uR_uR, uR_app, eq_self, Nat.reduceEqDiff, Nat.add_eq_left, Nat.left_eq_add, ↓reduceIte]
            refine r_iinc (pc := 268) dX12_look_268 rfl ?_
            refine r_goto (pc := 271) 218 dX12_look_271 (by decide) ?_
            refine ih (o + 1) _ _ _ _ (by omega) (by omega) ?_ ?_ ?_ ?_ ?_ ?_
            · rw [up_n _ _ (by decide)]; exact h11
            · rw [up_n _ _ (by decide)]; exact h12
            · rw [up_n _ _ (by decide)]; exact h13
            · rw [up_n _ _ (by decide)]; exact h14
            · rw [up_s, numV_st]
            · rw [up_n _ _ (by decide)]; exact hw4
  have eW : ∀ _u : Unit, S < n → T.1 = S → T.2.1 = runB isLet b (n - (S + 1)) (S + 1) → T.2.2 = 2 → ∀ (p : Nat) (w2 w3 : Int) (W : Nat → Int), S < p → p ≤ n → runB isLet b (n - (S + 1)) (S + 1) = p → W 11 = (n : Int) → W 12 = (S : Int) → W 13 = (p : Int) - S → W 14 = 1 → W 15 = 0 → W 4 = I m 4 → Wd G yX12_look cX12_look 5 none 2 (C.2.1 + 0, C.2.2 + 0) (NV C (QK m n T V I P L)) 218 [some (.ref m), some (.int (zI x)), some (.int (zI w2)), some (.int (zI w3)), some (.int (zI 0))] [] C (uR I m W) P L := by
    intro _ hSn t1 t2 t3 p w2 w3 W hSp hpn hte h11 h12 h13 h14 h15 hw4
    refine r_iload (pc := 218) dX12_look_218 rfl ?_
    refine r_aload_n (pc := 220) dX12_look_220 rfl ?_
    refine r_getI (pc := 221) dX12_look_221 frX12_254 (by assumption) ?_
    try simp only [u2_I, uR_uR, uR_app, eq_self, Nat.reduceEqDiff, Nat.add_eq_left, Nat.left_eq_add, ↓reduceIte]
    rw [h13]
    refine r_icmp_ge (pc := 224) 274 dX12_look_224 (by decide) (by omega) (by omega) (fun h224 => ?_) (fun h224 => ?_)
    · exfalso; omega
    · skip
      refine r_iload (pc := 227) dX12_look_227 rfl ?_
      refine r_iconst (pc := 229) dX12_look_229 ?_
      refine r_icmp_ge (pc := 230) 274 dX12_look_230 (by decide) (by omega) (by omega) (fun h230 => ?_) (fun h230 => ?_)
      · exfalso; omega
      · skip
        refine r_aload_n (pc := 233) dX12_look_233 rfl ?_
        refine r_getI (pc := 234) dX12_look_234 frX12_257 (by assumption) ?_
        try simp only [u2_I, uR_uR, uR_app, eq_self, Nat.reduceEqDiff, Nat.add_eq_left, Nat.left_eq_add, ↓reduceIte]
        rw [h14]
        refine r_iconst (pc := 237) dX12_look_237 ?_
        refine r_icmp_ne (pc := 238) 274 dX12_look_238 (by decide) (by omega) (by omega) (fun h238 => ?_) (fun h238 => ?_)
        · skip
          refine fin W 1 ((p : Int) - S) _ _ _ h11 h12 h13 (by omega) (by omega) h14 (by omega) (by omega) hw4 t1 (by omega) ?_ ?_
          · rw [if_neg (by omega), t3]; rfl
          · intro h; omega
        · exact absurd h238 (by decide)
  have zW : ∀ _u : Unit, S < n → T.1 = S → T.2.1 = runB isLet b (n - (S + 1)) (S + 1) → T.2.2 = 2 → ∀ (p : Nat) (w2 : Int) (w4 : Option Value) (W : Nat → Int), S < p → p ≤ n → runB isLet b (n - (S + 1)) (S + 1) = p → W 11 = (n : Int) → W 12 = (S : Int) → W 13 = (p : Int) - S → W 14 = 1 → W 15 = 0 → W 4 = I m 4 → Wd G yX12_look cX12_look 5 none 2 (C.2.1 + 0, C.2.2 + 0) (NV C (QK m n T V I P L)) 136 [some (.ref m), some (.int (zI x)), some (.int (zI w2)), some (.int (zI 0)), w4] [] C (uR I m W) P L := by
    intro _ hSn t1 t2 t3 p w2 w4 W hSp hpn hte h11 h12 h13 h14 h15 hw4
    refine r_iload_n (pc := 136) dX12_look_136 rfl ?_
    refine r_if_eq (pc := 137) 215 dX12_look_137 (by decide) (by omega) (fun h137 => ?_) (fun h137 => ?_)
    · skip
      refine r_iconst (pc := 215) dX12_look_215 ?_
      refine r_istore (pc := 216) dX12_look_216 (by decide) ?_
      exact eW () hSn t1 t2 t3 p _ _ W hSp hpn hte h11 h12 h13 h14 h15 hw4
    · exact absurd rfl h137
  have lW : ∀ _u : Unit, S < n → T.1 = S → T.2.1 = runB isLet b (n - (S + 1)) (S + 1) → T.2.2 = 2 → ∀ (d p : Nat) (w2 : Int) (w4 : Option Value) (W : Nat → Int), p + d = n → S < p → runB isLet b (n - (S + 1)) (S + 1) = runB isLet b d p → W 11 = (n : Int) → W 12 = (S : Int) → W 13 = (p : Int) - S → W 14 = 1 → W 15 = 0 → W 4 = I m 4 → Wd G yX12_look cX12_look 5 none 2 (C.2.1 + 0, C.2.2 + 0) (NV C (QK m n T V I P L)) 136 [some (.ref m), some (.int (zI x)), some (.int (zI w2)), some (.int (zI 1)), w4] [] C (uR I m W) P L := by
    intro _ hSn t1 t2 t3 d
    induction d with
    | zero =>
      intro p w2 w4 W hd hSp hte h11 h12 h13 h14 h15 hw4
      refine r_iload_n (pc := 136) dX12_look_136 rfl ?_
      refine r_if_eq (pc := 137) 215 dX12_look_137 (by decide) (by omega) (fun h137 => ?_) (fun h137 => ?_)
      · exact absurd h137 (by decide)
      · skip
        refine r_aload_n (pc := 140) dX12_look_140 rfl ?_
        refine r_getI (pc := 141) dX12_look_141 frX12_251 (by assumption) ?_
        try simp only [u2_I, uR_uR, uR_app, eq_self, Nat.reduceEqDiff, Nat.add_eq_left, Nat.left_eq_add, ↓reduceIte]
        rw [h12]
        refine r_aload_n (pc := 144) dX12_look_144 rfl ?_
        refine r_getI (pc := 145) dX12_look_145 frX12_254 (by assumption) ?_
        try simp only [u2_I, uR_uR, uR_app, eq_self, Nat.reduceEqDiff, Nat.add_eq_left, Nat.left_eq_add, ↓reduceIte]
        rw [h13]
        refine r_iadd (pc := 148) dX12_look_148 ?_
        refine r_aload_n (pc := 149) dX12_look_149 rfl ?_
        refine r_getI (pc := 150) dX12_look_150 frX12_239 (by assumption) ?_
        try simp only [u2_I, uR_uR, uR_app, eq_self, Nat.reduceEqDiff, Nat.add_eq_left, Nat.left_eq_add, ↓reduceIte]
        rw [h11]
        refine r_icmp_ge (pc := 153) 215 dX12_look_153 (by decide) (by omega) (by omega) (fun h153 => ?_) (fun h153 => ?_)
        · skip
          refine r_iconst (pc := 215) dX12_look_215 ?_
          refine r_istore (pc := 216) dX12_look_216 (by decide) ?_
          exact eW () hSn t1 t2 t3 p _ _ W hSp (by omega) hte h11 h12 h13 h14 h15 hw4
        · exfalso; omega
    | succ d ih =>
      intro p w2 w4 W hd hSp hte h11 h12 h13 h14 h15 hw4
      have hbp := hbb p (by omega)
      rw [runB_st] at hte
      refine r_iload_n (pc := 136) dX12_look_136 rfl ?_
      refine r_if_eq (pc := 137) 215 dX12_look_137 (by decide) (by first | omega | exact nb _) (fun h137 => ?_) (fun h137 => ?_)
      · exact absurd h137 (by decide)
      · skip
        refine r_aload_n (pc := 140) dX12_look_140 rfl ?_
        refine r_getI (pc := 141) dX12_look_141 frX12_251 (by assumption) ?_
        try simp only [u2_I, uR_uR, uR_app, eq_self, Nat.reduceEqDiff, Nat.add_eq_left, Nat.left_eq_add, ↓reduceIte]
        rw [h12]
        refine r_aload_n (pc := 144) dX12_look_144 rfl ?_
        refine r_getI (pc := 145) dX12_look_145 frX12_254 (by assumption) ?_
        try simp only [u2_I, uR_uR, uR_app, eq_self, Nat.reduceEqDiff, Nat.add_eq_left, Nat.left_eq_add, ↓reduceIte]
        rw [h13]
        refine r_iadd (pc := 148) dX12_look_148 ?_
        refine r_aload_n (pc := 149) dX12_look_149 rfl ?_
        refine r_getI (pc := 150) dX12_look_150 frX12_239 (by assumption) ?_
        try simp only [u2_I, uR_uR, uR_app, eq_self, Nat.reduceEqDiff, Nat.add_eq_left, Nat.left_eq_add, ↓reduceIte]
        rw [h11]
        refine r_icmp_ge (pc := 153) 215 dX12_look_153 (by decide) (by first | omega | exact nb _) (by first | omega | exact nb _) (fun h153 => ?_) (fun h153 => ?_)
        · exfalso; omega
        · skip
          refine r_aload_n (pc := 156) dX12_look_156 rfl ?_
          refine r_getA (pc := 157) dX12_look_157 frX12_39 (by assumption) (by assumption) ?_
          refine r_aload_n (pc := 160) dX12_look_160 rfl ?_
          refine r_getI (pc := 161) dX12_look_161 frX12_251 (by assumption) ?_
          try simp only [u2_I, uR_uR, uR_app, eq_self, Nat.reduceEqDiff, Nat.add_eq_left, Nat.left_eq_add, ↓reduceIte]
          rw [h12]
          refine r_aload_n (pc := 164) dX12_look_164 rfl ?_
          refine r_getI (pc := 165) dX12_look_165 frX12_254 (by assumption) ?_
          try simp only [u2_I, uR_uR, uR_app, eq_self, Nat.reduceEqDiff, Nat.add_eq_left, Nat.left_eq_add, ↓reduceIte]
          rw [h13]
          refine r_iadd (pc := 168) dX12_look_168 ?_
          refine r_iald (j := p) (pc := 169) dX12_look_169 (by assumption) (by omega) (by first | omega | exact nb _) (by omega) ?_
          try simp only [u2_I, uR_uR, uR_app, eq_self, Nat.reduceEqDiff, Nat.add_eq_left, Nat.left_eq_add, ↓reduceIte]
          rw [← hb]
          refine r_istore (pc := 170) dX12_look_170 (by decide) ?_
          refine r_aload_n (pc := 172) dX12_look_172 rfl ?_
          refine r_getI (pc := 173) dX12_look_173 frX12_257 (by assumption) ?_
          try simp only [u2_I, uR_uR, uR_app, eq_self, Nat.reduceEqDiff, Nat.add_eq_left, Nat.left_eq_add, ↓reduceIte]
          rw [h14]
          refine r_iconst (pc := 176) dX12_look_176 ?_
          refine r_icmp_ne (pc := 177) 188 dX12_look_177 (by decide) (by first | omega | exact nb _) (by first | omega | exact nb _) (fun h177 => ?_) (fun h177 => ?_)
          · exact absurd rfl h177
          · skip
            refine r_iload (pc := 180) dX12_look_180 rfl ?_
            refine i_S1ix (pc := 182) okX12_isSmall staX12_isSmall q1400 dX12_look_182 (by decide) (Nat.le_of_ble_eq_true rfl) (sX12_isSmall) ?_
            try simp only [u2_I, uR_uR, uR_app, eq_self, Nat.reduceEqDiff, Nat.add_eq_left, Nat.left_eq_add, ↓reduceIte]
            refine r_goto (pc := 185) 193 dX12_look_185 (by decide) ?_
            refine r_istore_n (pc := 193) dX12_look_193 (by decide) ?_
            refine r_aload_n (pc := 194) dX12_look_194 rfl ?_
            refine r_dup (pc := 195) dX12_look_195 rfl ?_
            refine r_getI (pc := 196) dX12_look_196 frX12_254 (by assumption) ?_
            try simp only [u2_I, uR_uR, uR_app, eq_self, Nat.reduceEqDiff, Nat.add_eq_left, Nat.left_eq_add, ↓reduceIte]
            rw [h13]
            refine r_iload_n (pc := 199) dX12_look_199 rfl ?_
            refine r_if_eq (pc := 200) 207 dX12_look_200 (by decide) (by first | omega | exact nb _) (fun h200 => ?_) (fun h200 => ?_)
            · skip
              refine r_iconst (pc := 207) dX12_look_207 ?_
              refine r_iadd (pc := 208) dX12_look_208 ?_
              refine r_putI (pc := 209) dX12_look_209 fwX12_254 (by assumption) (by first | omega | exact nb _) ?_
              try simp only [u2_I, uR_uR, uR_app, eq_self, Nat.reduceEqDiff, Nat.add_eq_left, Nat.left_eq_add, ↓reduceIte]
              refine r_goto (pc := 212) 136 dX12_look_212 (by decide) ?_
              have hf : isLet (b p) = false := by simpa using bf h200
              rw [if_neg (by rw [hf]; decide)] at hte
              rw [hf]
              refine zW () hSn t1 t2 t3 p _ _ _ hSp (by omega) hte ?_ ?_ ?_ ?_ ?_ ?_
              · rw [up_n _ _ (by decide)]; exact h11
              · rw [up_n _ _ (by decide)]; exact h12
              · rw [up_s]; omega
              · rw [up_n _ _ (by decide)]; exact h14
              · rw [up_n _ _ (by decide)]; exact h15
              · rw [up_n _ _ (by decide)]; exact hw4
            · skip
              refine r_iconst (pc := 203) dX12_look_203 ?_
              refine r_goto (pc := 204) 208 dX12_look_204 (by decide) ?_
              refine r_iadd (pc := 208) dX12_look_208 ?_
              refine r_putI (pc := 209) dX12_look_209 fwX12_254 (by assumption) (by first | omega | exact nb _) ?_
              try simp only [u2_I, uR_uR, uR_app, eq_self, Nat.reduceEqDiff, Nat.add_eq_left, Nat.left_eq_add, ↓reduceIte]
              refine r_goto (pc := 212) 136 dX12_look_212 (by decide) ?_
              have hf : isLet (b p) = true := bt h200
              rw [if_pos hf] at hte
              rw [hf]
              refine ih (p + 1) _ _ _ (by omega) (by omega) hte ?_ ?_ ?_ ?_ ?_ ?_
              · rw [up_n _ _ (by decide)]; exact h11
              · rw [up_n _ _ (by decide)]; exact h12
              · rw [up_s]; omega
              · rw [up_n _ _ (by decide)]; exact h14
              · rw [up_n _ _ (by decide)]; exact h15
              · rw [up_n _ _ (by decide)]; exact hw4
  have eN : ∀ _u : Unit, S < n → T.1 = S → T.2.1 = runB isFig b (n - (S + 1)) (S + 1) → T.2.2 = (if runB isFig b (n - (S + 1)) (S + 1) - S ≤ 4 then 3 else 4) → ∀ (p : Nat) (w2 w3 : Int) (W : Nat → Int), S < p → p ≤ n → runB isFig b (n - (S + 1)) (S + 1) = p → W 11 = (n : Int) → W 12 = (S : Int) → W 13 = (p : Int) - S → W 14 = 2 → W 15 = 0 → W 4 = I m 4 → Wd G yX12_look cX12_look 5 none 2 (C.2.1 + 0, C.2.2 + 0) (NV C (QK m n T V I P L)) 218 [some (.ref m), some (.int (zI x)), some (.int (zI w2)), some (.int (zI w3)), some (.int (zI 0))] [] C (uR I m W) P L := by
    intro _ hSn t1 t2 t3 p w2 w3 W hSp hpn hte h11 h12 h13 h14 h15 hw4
    refine vals (p - S) (by omega) t1 (by omega) ?_ ?_ (min (p - S) 4) 0 0 _ _ W (by omega) rfl h11 h12 (by rw [h13]; omega) h14 h15 hw4
    · rw [t3, hte]
      by_cases h4 : p - S ≤ 4
      · rw [if_neg (by omega), if_pos h4]; rfl
      · rw [if_pos (by omega), if_neg h4]; rfl
    · intro h
      rw [t3, hte] at h
      by_cases h4 : p - S ≤ 4
      · refine ⟨?_, h4⟩
        rw [hvd, t1, t2, hte]
      · rw [if_neg h4] at h; omega
  have zN : ∀ _u : Unit, S < n → T.1 = S → T.2.1 = runB isFig b (n - (S + 1)) (S + 1) → T.2.2 = (if runB isFig b (n - (S + 1)) (S + 1) - S ≤ 4 then 3 else 4) → ∀ (p : Nat) (w2 : Int) (w4 : Option Value) (W : Nat → Int), S < p → p ≤ n → runB isFig b (n - (S + 1)) (S + 1) = p → W 11 = (n : Int) → W 12 = (S : Int) → W 13 = (p : Int) - S → W 14 = 2 → W 15 = 0 → W 4 = I m 4 → Wd G yX12_look cX12_look 5 none 2 (C.2.1 + 0, C.2.2 + 0) (NV C (QK m n T V I P L)) 136 [some (.ref m), some (.int (zI x)), some (.int (zI w2)), some (.int (zI 0)), w4] [] C (uR I m W) P L := by
    intro _ hSn t1 t2 t3 p w2 w4 W hSp hpn hte h11 h12 h13 h14 h15 hw4
    refine r_iload_n (pc := 136) dX12_look_136 rfl ?_
    refine r_if_eq (pc := 137) 215 dX12_look_137 (by decide) (by omega) (fun h137 => ?_) (fun h137 => ?_)
    · skip
      refine r_iconst (pc := 215) dX12_look_215 ?_
      refine r_istore (pc := 216) dX12_look_216 (by decide) ?_
      exact eN () hSn t1 t2 t3 p _ _ W hSp hpn hte h11 h12 h13 h14 h15 hw4
    · exact absurd rfl h137
  have lN : ∀ _u : Unit, S < n → T.1 = S → T.2.1 = runB isFig b (n - (S + 1)) (S + 1) → T.2.2 = (if runB isFig b (n - (S + 1)) (S + 1) - S ≤ 4 then 3 else 4) → ∀ (d p : Nat) (w2 : Int) (w4 : Option Value) (W : Nat → Int), p + d = n → S < p → runB isFig b (n - (S + 1)) (S + 1) = runB isFig b d p → W 11 = (n : Int) → W 12 = (S : Int) → W 13 = (p : Int) - S → W 14 = 2 → W 15 = 0 → W 4 = I m 4 → Wd G yX12_look cX12_look 5 none 2 (C.2.1 + 0, C.2.2 + 0) (NV C (QK m n T V I P L)) 136 [some (.ref m), some (.int (zI x)), some (.int (zI w2)), some (.int (zI 1)), w4] [] C (uR I m W) P L := by
    intro _ hSn t1 t2 t3 d
    induction d with
    | zero =>
      intro p w2 w4 W hd hSp hte h11 h12 h13 h14 h15 hw4
      refine r_iload_n (pc := 136) dX12_look_136 rfl ?_
      refine r_if_eq (pc := 137) 215 dX12_look_137 (by decide) (by omega) (fun h137 => ?_) (fun h137 => ?_)
      · exact absurd h137 (by decide)
      · skip
        refine r_aload_n (pc := 140) dX12_look_140 rfl ?_
        refine r_getI (pc := 141) dX12_look_141 frX12_251 (by assumption) ?_
        try simp only [u2_I, uR_uR, uR_app, eq_self, Nat.reduceEqDiff, Nat.add_eq_left, Nat.left_eq_add, ↓reduceIte]
        rw [h12]
        refine r_aload_n (pc := 144) dX12_look_144 rfl ?_
        refine r_getI (pc := 145) dX12_look_145 frX12_254 (by assumption) ?_
        try simp only [u2_I, uR_uR, uR_app, eq_self, Nat.reduceEqDiff, Nat.add_eq_left, Nat.left_eq_add, ↓reduceIte]
        rw [h13]
        refine r_iadd (pc := 148) dX12_look_148 ?_
        refine r_aload_n (pc := 149) dX12_look_149 rfl ?_
        refine r_getI (pc := 150) dX12_look_150 frX12_239 (by assumption) ?_
        try simp only [u2_I, uR_uR, uR_app, eq_self, Nat.reduceEqDiff, Nat.add_eq_left, Nat.left_eq_add, ↓reduceIte]
        rw [h11]
        refine r_icmp_ge (pc := 153) 215 dX12_look_153 (by decide) (by omega) (by omega) (fun h153 => ?_) (fun h153 => ?_)
        · skip
          refine r_iconst (pc := 215) dX12_look_215 ?_
          refine r_istore (pc := 216) dX12_look_216 (by decide) ?_
          exact eN () hSn t1 t2 t3 p _ _ W hSp (by omega) hte h11 h12 h13 h14 h15 hw4
        · exfalso; omega
    | succ d ih =>
      intro p w2 w4 W hd hSp hte h11 h12 h13 h14 h15 hw4
      have hbp := hbb p (by omega)
      rw [runB_st] at hte
      refine r_iload_n (pc := 136) dX12_look_136 rfl ?_
      refine r_if_eq (pc := 137) 215 dX12_look_137 (by decide) (by first | omega | exact nb _) (fun h137 => ?_) (fun h137 => ?_)
      · exact absurd h137 (by decide)
      · skip
        refine r_aload_n (pc := 140) dX12_look_140 rfl ?_
        refine r_getI (pc := 141) dX12_look_141 frX12_251 (by assumption) ?_
        try simp only [u2_I, uR_uR, uR_app, eq_self, Nat.reduceEqDiff, Nat.add_eq_left, Nat.left_eq_add, ↓reduceIte]
        rw [h12]
        refine r_aload_n (pc := 144) dX12_look_144 rfl ?_
        refine r_getI (pc := 145) dX12_look_145 frX12_254 (by assumption) ?_
        try simp only [u2_I, uR_uR, uR_app, eq_self, Nat.reduceEqDiff, Nat.add_eq_left, Nat.left_eq_add, ↓reduceIte]
        rw [h13]
        refine r_iadd (pc := 148) dX12_look_148 ?_
        refine r_aload_n (pc := 149) dX12_look_149 rfl ?_
        refine r_getI (pc := 150) dX12_look_150 frX12_239 (by assumption) ?_
        try simp only [u2_I, uR_uR, uR_app, eq_self, Nat.reduceEqDiff, Nat.add_eq_left, Nat.left_eq_add, ↓reduceIte]
        rw [h11]
        refine r_icmp_ge (pc := 153) 215 dX12_look_153 (by decide) (by first | omega | exact nb _) (by first | omega | exact nb _) (fun h153 => ?_) (fun h153 => ?_)
        · exfalso; omega
        · skip
          refine r_aload_n (pc := 156) dX12_look_156 rfl ?_
          refine r_getA (pc := 157) dX12_look_157 frX12_39 (by assumption) (by assumption) ?_
          refine r_aload_n (pc := 160) dX12_look_160 rfl ?_
          refine r_getI (pc := 161) dX12_look_161 frX12_251 (by assumption) ?_
          try simp only [u2_I, uR_uR, uR_app, eq_self, Nat.reduceEqDiff, Nat.add_eq_left, Nat.left_eq_add, ↓reduceIte]
          rw [h12]
          refine r_aload_n (pc := 164) dX12_look_164 rfl ?_
          refine r_getI (pc := 165) dX12_look_165 frX12_254 (by assumption) ?_
          try simp only [u2_I, uR_uR, uR_app, eq_self, Nat.reduceEqDiff, Nat.add_eq_left, Nat.left_eq_add, ↓reduceIte]
          rw [h13]
          refine r_iadd (pc := 168) dX12_look_168 ?_
          refine r_iald (j := p) (pc := 169) dX12_look_169 (by assumption) (by omega) (by first | omega | exact nb _) (by omega) ?_
          try simp only [u2_I, uR_uR, uR_app, eq_self, Nat.reduceEqDiff, Nat.add_eq_left, Nat.left_eq_add, ↓reduceIte]
          rw [← hb]
          refine r_istore (pc := 170) dX12_look_170 (by decide) ?_
          refine r_aload_n (pc := 172) dX12_look_172 rfl ?_
          refine r_getI (pc := 173) dX12_look_173 frX12_257 (by assumption) ?_
          try simp only [u2_I, uR_uR, uR_app, eq_self, Nat.reduceEqDiff, Nat.add_eq_left, Nat.left_eq_add, ↓reduceIte]
          rw [h14]
          refine r_iconst (pc := 176) dX12_look_176 ?_
          refine r_icmp_ne (pc := 177) 188 dX12_look_177 (by decide) (by first | omega | exact nb _) (by first | omega | exact nb _) (fun h177 => ?_) (fun h177 => ?_)
          · skip
            refine r_iload (pc := 188) dX12_look_188 rfl ?_
            refine i_S1ix (pc := 190) okX12_isFigure staX12_isFigure q1405 dX12_look_190 (by decide) (Nat.le_of_ble_eq_true rfl) (sX12_isFigure) ?_
            try simp only [u2_I, uR_uR, uR_app, eq_self, Nat.reduceEqDiff, Nat.add_eq_left, Nat.left_eq_add, ↓reduceIte]
            refine r_istore_n (pc := 193) dX12_look_193 (by decide) ?_
            refine r_aload_n (pc := 194) dX12_look_194 rfl ?_
            refine r_dup (pc := 195) dX12_look_195 rfl ?_
            refine r_getI (pc := 196) dX12_look_196 frX12_254 (by assumption) ?_
            try simp only [u2_I, uR_uR, uR_app, eq_self, Nat.reduceEqDiff, Nat.add_eq_left, Nat.left_eq_add, ↓reduceIte]
            rw [h13]
            refine r_iload_n (pc := 199) dX12_look_199 rfl ?_
            refine r_if_eq (pc := 200) 207 dX12_look_200 (by decide) (by first | omega | exact nb _) (fun h200 => ?_) (fun h200 => ?_)
            · skip
              refine r_iconst (pc := 207) dX12_look_207 ?_
              refine r_iadd (pc := 208) dX12_look_208 ?_
              refine r_putI (pc := 209) dX12_look_209 fwX12_254 (by assumption) (by first | omega | exact nb _) ?_
              try simp only [u2_I, uR_uR, uR_app, eq_self, Nat.reduceEqDiff, Nat.add_eq_left, Nat.left_eq_add, ↓reduceIte]
              refine r_goto (pc := 212) 136 dX12_look_212 (by decide) ?_
              have hf : isFig (b p) = false := by simpa using bf h200
              rw [if_neg (by rw [hf]; decide)] at hte
              rw [hf]
              refine zN () hSn t1 t2 t3 p _ _ _ hSp (by omega) hte ?_ ?_ ?_ ?_ ?_ ?_
              · rw [up_n _ _ (by decide)]; exact h11
              · rw [up_n _ _ (by decide)]; exact h12
              · rw [up_s]; omega
              · rw [up_n _ _ (by decide)]; exact h14
              · rw [up_n _ _ (by decide)]; exact h15
              · rw [up_n _ _ (by decide)]; exact hw4
            · skip
              refine r_iconst (pc := 203) dX12_look_203 ?_
              refine r_goto (pc := 204) 208 dX12_look_204 (by decide) ?_
              refine r_iadd (pc := 208) dX12_look_208 ?_
              refine r_putI (pc := 209) dX12_look_209 fwX12_254 (by assumption) (by first | omega | exact nb _) ?_
              try simp only [u2_I, uR_uR, uR_app, eq_self, Nat.reduceEqDiff, Nat.add_eq_left, Nat.left_eq_add, ↓reduceIte]
              refine r_goto (pc := 212) 136 dX12_look_212 (by decide) ?_
              have hf : isFig (b p) = true := bt h200
              rw [if_pos hf] at hte
              rw [hf]
              refine ih (p + 1) _ _ _ (by omega) (by omega) hte ?_ ?_ ?_ ?_ ?_ ?_
              · rw [up_n _ _ (by decide)]; exact h11
              · rw [up_n _ _ (by decide)]; exact h12
              · rw [up_s]; omega
              · rw [up_n _ _ (by decide)]; exact h14
              · rw [up_n _ _ (by decide)]; exact h15
              · rw [up_n _ _ (by decide)]; exact hw4
          · exact absurd h177 (by decide)
  have zO : ∀ (k : Int) (w2 : Int) (w4 : Option Value) (W : Nat → Int), S < n → k = 3 ∨ k = 4 → T.1 = S → (T.2.1 : Int) - S = 1 → k = kM T.2.2 → T.2.2 ≠ 3 → W 11 = (n : Int) → W 12 = (S : Int) → W 13 = 1 → W 14 = k → W 4 = I m 4 → Wd G yX12_look cX12_look 5 none 2 (C.2.1 + 0, C.2.2 + 0) (NV C (QK m n T V I P L)) 136 [some (.ref m), some (.int (zI x)), some (.int (zI w2)), some (.int (zI 0)), w4] [] C (uR I m W) P L := by
    intro k w2 w4 W hSn hk t1 t2 t3 tn h11 h12 h13 h14 hw4
    refine r_iload_n (pc := 136) dX12_look_136 rfl ?_
    refine r_if_eq (pc := 137) 215 dX12_look_137 (by decide) (by omega) (fun h137 => ?_) (fun h137 => ?_)
    · skip
      refine r_iconst (pc := 215) dX12_look_215 ?_
      refine r_istore (pc := 216) dX12_look_216 (by decide) ?_
      refine r_iload (pc := 218) dX12_look_218 rfl ?_
      refine r_aload_n (pc := 220) dX12_look_220 rfl ?_
      refine r_getI (pc := 221) dX12_look_221 frX12_254 (by assumption) ?_
      try simp only [u2_I, uR_uR, uR_app, eq_self, Nat.reduceEqDiff, Nat.add_eq_left, Nat.left_eq_add, ↓reduceIte]
      rw [h13]
      refine r_icmp_ge (pc := 224) 274 dX12_look_224 (by decide) (by omega) (by omega) (fun h224 => ?_) (fun h224 => ?_)
      · exfalso; omega
      · skip
        refine r_iload (pc := 227) dX12_look_227 rfl ?_
        refine r_iconst (pc := 229) dX12_look_229 ?_
        refine r_icmp_ge (pc := 230) 274 dX12_look_230 (by decide) (by omega) (by omega) (fun h230 => ?_) (fun h230 => ?_)
        · exact absurd h230 (by decide)
        · skip
          refine r_aload_n (pc := 233) dX12_look_233 rfl ?_
          refine r_getI (pc := 234) dX12_look_234 frX12_257 (by assumption) ?_
          try simp only [u2_I, uR_uR, uR_app, eq_self, Nat.reduceEqDiff, Nat.add_eq_left, Nat.left_eq_add, ↓reduceIte]
          rw [h14]
          refine r_iconst (pc := 237) dX12_look_237 ?_
          refine r_icmp_ne (pc := 238) 274 dX12_look_238 (by decide) (by omega) (by omega) (fun h238 => ?_) (fun h238 => ?_)
          · skip
            refine fin W k 1 _ _ _ h11 h12 h13 (by omega) (by omega) h14 (by omega) (by omega) hw4 t1 t2 ?_ (fun h => absurd h tn)
            rw [if_neg (by omega)]; exact t3
          · exfalso; omega
    · exact absurd rfl h137
  have rest : ∀ (w2 w3 w4 : Option Value) (W : Nat → Int), S ≤ n → W 11 = (n : Int) → W 12 = (S : Int) → W 4 = I m 4 → Wd G yX12_look cX12_look 5 none 2 (C.2.1 + 0, C.2.2 + 0) (NV C (QK m n T V I P L)) 43 [some (.ref m), some (.int (zI x)), w2, w3, w4] [] C (uR I m W) P L := by
    intro w2 w3 w4 W hSn h11 h12 hw4
    have htd := tok_eq b n a
    rw [hSS, hT] at htd
    refine r_aload_n (pc := 43) dX12_look_43 rfl ?_
    refine r_iconst (pc := 44) dX12_look_44 ?_
    refine r_putI (pc := 45) dX12_look_45 fwX12_254 (by assumption) (by first | omega | exact nb _) ?_
    try simp only [u2_I, uR_uR, uR_app, eq_self, Nat.reduceEqDiff, Nat.add_eq_left, Nat.left_eq_add, ↓reduceIte]
    refine r_aload_n (pc := 48) dX12_look_48 rfl ?_
    refine r_iconst (pc := 49) dX12_look_49 ?_
    refine r_putI (pc := 50) dX12_look_50 fwX12_257 (by assumption) (by first | omega | exact nb _) ?_
    try simp only [u2_I, uR_uR, uR_app, eq_self, Nat.reduceEqDiff, Nat.add_eq_left, Nat.left_eq_add, ↓reduceIte]
    refine r_aload_n (pc := 53) dX12_look_53 rfl ?_
    refine r_iconst (pc := 54) dX12_look_54 ?_
    refine r_putI (pc := 55) dX12_look_55 fwX12_260 (by assumption) (by first | omega | exact nb _) ?_
    try simp only [u2_I, uR_uR, uR_app, eq_self, Nat.reduceEqDiff, Nat.add_eq_left, Nat.left_eq_add, ↓reduceIte]
    refine r_aload_n (pc := 58) dX12_look_58 rfl ?_
    refine r_getI (pc := 59) dX12_look_59 frX12_251 (by assumption) ?_
    try simp only [u2_I, uR_uR, uR_app, eq_self, Nat.reduceEqDiff, Nat.add_eq_left, Nat.left_eq_add, ↓reduceIte]
    rw [up_n _ _ (show 12 ≠ 15 by decide), up_n _ _ (show 12 ≠ 14 by decide), up_n _ _ (show 12 ≠ 13 by decide), h12]
    refine r_aload_n (pc := 62) dX12_look_62 rfl ?_
    refine r_getI (pc := 63) dX12_look_63 frX12_239 (by assumption) ?_
    try simp only [u2_I, uR_uR, uR_app, eq_self, Nat.reduceEqDiff, Nat.add_eq_left, Nat.left_eq_add, ↓reduceIte]
    rw [up_n _ _ (show 11 ≠ 15 by decide), up_n _ _ (show 11 ≠ 14 by decide), up_n _ _ (show 11 ≠ 13 by decide), h11]
    refine r_icmp_ne (pc := 66) 70 dX12_look_66 (by decide) (by first | omega | exact nb _) (by first | omega | exact nb _) (fun h66 => ?_) (fun h66 => ?_)
    · skip
      have hbS := hbb S (by omega)
      refine r_aload_n (pc := 70) dX12_look_70 rfl ?_
      refine r_getA (pc := 71) dX12_look_71 frX12_39 (by assumption) (by assumption) ?_
      refine r_aload_n (pc := 74) dX12_look_74 rfl ?_
      refine r_getI (pc := 75) dX12_look_75 frX12_251 (by assumption) ?_
      try simp only [u2_I, uR_uR, uR_app, eq_self, Nat.reduceEqDiff, Nat.add_eq_left, Nat.left_eq_add, ↓reduceIte]
      rw [up_n _ _ (show 12 ≠ 15 by decide), up_n _ _ (show 12 ≠ 14 by decide), up_n _ _ (show 12 ≠ 13 by decide), h12]
      refine r_iald (j := S) (pc := 78) dX12_look_78 (by assumption) (by omega) (by first | omega | exact nb _) (by omega) ?_
      try simp only [u2_I, uR_uR, uR_app, eq_self, Nat.reduceEqDiff, Nat.add_eq_left, Nat.left_eq_add, ↓reduceIte]
      rw [← hb]
      refine r_istore_n (pc := 79) dX12_look_79 (by decide) ?_
      refine r_aload_n (pc := 80) dX12_look_80 rfl ?_
      refine r_iload_n (pc := 81) dX12_look_81 rfl ?_
      refine i_S1ix (pc := 82) okX12_isSmall staX12_isSmall q1400 dX12_look_82 (by decide) (Nat.le_of_ble_eq_true rfl) (sX12_isSmall) ?_
      refine r_if_eq (pc := 85) 92 dX12_look_85 (by decide) (by first | omega | exact nb _) (fun h85 => ?_) (fun h85 => ?_)
      · skip
        refine r_iload_n (pc := 92) dX12_look_92 rfl ?_
        refine i_S1ix (pc := 93) okX12_isFigure staX12_isFigure q1405 dX12_look_93 (by decide) (Nat.le_of_ble_eq_true rfl) (sX12_isFigure) ?_
        refine r_if_eq (pc := 96) 103 dX12_look_96 (by decide) (by first | omega | exact nb _) (fun h96 => ?_) (fun h96 => ?_)
        · skip
          refine r_iload_n (pc := 103) dX12_look_103 rfl ?_
          refine r_bipush (pc := 104) dX12_look_104 (by decide) ?_
          refine r_icmp_ne (pc := 106) 113 dX12_look_106 (by decide) (by first | omega | exact nb _) (by first | omega | exact nb _) (fun h106 => ?_) (fun h106 => ?_)
          · skip
            refine r_iconst (pc := 113) dX12_look_113 ?_
            refine r_putI (pc := 114) dX12_look_114 fwX12_257 (by assumption) (by first | omega | exact nb _) ?_
            try simp only [u2_I, uR_uR, uR_app, eq_self, Nat.reduceEqDiff, Nat.add_eq_left, Nat.left_eq_add, ↓reduceIte]
            refine r_aload_n (pc := 117) dX12_look_117 rfl ?_
            refine r_iconst (pc := 118) dX12_look_118 ?_
            refine r_putI (pc := 119) dX12_look_119 fwX12_254 (by assumption) (by first | omega | exact nb _) ?_
            try simp only [u2_I, uR_uR, uR_app, eq_self, Nat.reduceEqDiff, Nat.add_eq_left, Nat.left_eq_add, ↓reduceIte]
            refine r_aload_n (pc := 122) dX12_look_122 rfl ?_
            refine r_getI (pc := 123) dX12_look_123 frX12_257 (by assumption) ?_
            try simp only [u2_I, uR_uR, uR_app, eq_self, Nat.reduceEqDiff, Nat.add_eq_left, Nat.left_eq_add, ↓reduceIte]
            rw [up_n _ _ (show 14 ≠ 13 by decide), up_s]
            refine r_iconst (pc := 126) dX12_look_126 ?_
            refine r_icmp_ge (pc := 127) 134 dX12_look_127 (by decide) (by first | omega | exact nb _) (by first | omega | exact nb _) (fun h127 => ?_) (fun h127 => ?_)
            · skip
              refine r_iconst (pc := 134) dX12_look_134 ?_
              refine r_istore_n (pc := 135) dX12_look_135 (by decide) ?_
              first
              | (exfalso; omega)
              | (have hl : ¬ isLet (b S) = true := bf h85
                 have hf : ¬ isFig (b S) = true := bf h96
                 rw [if_neg (by omega), if_neg (by omega), if_neg hl, if_neg hf] at htd
                 refine zO 4 _ _ _ (by omega) (by omega) (by rw [htd]) (by rw [htd]; show ((S + 1 : Nat) : Int) - S = 1; omega) (by rw [htd]; rfl) (by rw [htd]; exact (by decide : ¬ (4 : Int) = 3)) ?_ ?_ ?_ ?_ ?_
                 · simp [up_app, h11]
                 · simp [up_app, h12]
                 · simp [up_app]
                 · simp [up_app]
                 · simp [up_app, hw4])
            · skip
              refine r_iconst (pc := 130) dX12_look_130 ?_
              refine r_goto (pc := 131) 135 dX12_look_131 (by decide) ?_
              refine r_istore_n (pc := 135) dX12_look_135 (by decide) ?_
              first
              | (exfalso; omega)
              | (have hl : ¬ isLet (b S) = true := bf h85
                 have hf : ¬ isFig (b S) = true := bf h96
                 rw [if_neg (by omega), if_neg (by omega), if_neg hl, if_neg hf] at htd
                 refine zO 4 _ _ _ (by omega) (by omega) (by rw [htd]) (by rw [htd]; show ((S + 1 : Nat) : Int) - S = 1; omega) (by rw [htd]; rfl) (by rw [htd]; exact (by decide : ¬ (4 : Int) = 3)) ?_ ?_ ?_ ?_ ?_
                 · simp [up_app, h11]
                 · simp [up_app, h12]
                 · simp [up_app]
                 · simp [up_app]
                 · simp [up_app, hw4])
          · skip
            refine r_iconst (pc := 109) dX12_look_109 ?_
            refine r_goto (pc := 110) 114 dX12_look_110 (by decide) ?_
            refine r_putI (pc := 114) dX12_look_114 fwX12_257 (by assumption) (by first | omega | exact nb _) ?_
            try simp only [u2_I, uR_uR, uR_app, eq_self, Nat.reduceEqDiff, Nat.add_eq_left, Nat.left_eq_add, ↓reduceIte]
            refine r_aload_n (pc := 117) dX12_look_117 rfl ?_
            refine r_iconst (pc := 118) dX12_look_118 ?_
            refine r_putI (pc := 119) dX12_look_119 fwX12_254 (by assumption) (by first | omega | exact nb _) ?_
            try simp only [u2_I, uR_uR, uR_app, eq_self, Nat.reduceEqDiff, Nat.add_eq_left, Nat.left_eq_add, ↓reduceIte]
            refine r_aload_n (pc := 122) dX12_look_122 rfl ?_
            refine r_getI (pc := 123) dX12_look_123 frX12_257 (by assumption) ?_
            try simp only [u2_I, uR_uR, uR_app, eq_self, Nat.reduceEqDiff, Nat.add_eq_left, Nat.left_eq_add, ↓reduceIte]
            rw [up_n _ _ (show 14 ≠ 13 by decide), up_s]
            refine r_iconst (pc := 126) dX12_look_126 ?_
            refine r_icmp_ge (pc := 127) 134 dX12_look_127 (by decide) (by first | omega | exact nb _) (by first | omega | exact nb _) (fun h127 => ?_) (fun h127 => ?_)
            · skip
              refine r_iconst (pc := 134) dX12_look_134 ?_
              refine r_istore_n (pc := 135) dX12_look_135 (by decide) ?_
              first
              | (exfalso; omega)
              | (rw [if_neg (by omega), if_pos (by omega)] at htd
                 refine zO 3 _ _ _ (by omega) (by omega) (by rw [htd]) (by rw [htd]; show ((S + 1 : Nat) : Int) - S = 1; omega) (by rw [htd]; rfl) (by rw [htd]; exact (by decide : ¬ (1 : Int) = 3)) ?_ ?_ ?_ ?_ ?_
                 · simp [up_app, h11]
                 · simp [up_app, h12]
                 · simp [up_app]
                 · simp [up_app]
                 · simp [up_app, hw4])
            · skip
              refine r_iconst (pc := 130) dX12_look_130 ?_
              refine r_goto (pc := 131) 135 dX12_look_131 (by decide) ?_
              refine r_istore_n (pc := 135) dX12_look_135 (by decide) ?_
              first
              | (exfalso; omega)
              | (rw [if_neg (by omega), if_pos (by omega)] at htd
                 refine zO 3 _ _ _ (by omega) (by omega) (by rw [htd]) (by rw [htd]; show ((S + 1 : Nat) : Int) - S = 1; omega) (by rw [htd]; rfl) (by rw [htd]; exact (by decide : ¬ (1 : Int) = 3)) ?_ ?_ ?_ ?_ ?_
                 · simp [up_app, h11]
                 · simp [up_app, h12]
                 · simp [up_app]
                 · simp [up_app]
                 · simp [up_app, hw4])
        · skip
          refine r_iconst (pc := 99) dX12_look_99 ?_
          refine r_goto (pc := 100) 114 dX12_look_100 (by decide) ?_
          refine r_putI (pc := 114) dX12_look_114 fwX12_257 (by assumption) (by first | omega | exact nb _) ?_
          try simp only [u2_I, uR_uR, uR_app, eq_self, Nat.reduceEqDiff, Nat.add_eq_left, Nat.left_eq_add, ↓reduceIte]
          refine r_aload_n (pc := 117) dX12_look_117 rfl ?_
          refine r_iconst (pc := 118) dX12_look_118 ?_
          refine r_putI (pc := 119) dX12_look_119 fwX12_254 (by assumption) (by first | omega | exact nb _) ?_
          try simp only [u2_I, uR_uR, uR_app, eq_self, Nat.reduceEqDiff, Nat.add_eq_left, Nat.left_eq_add, ↓reduceIte]
          refine r_aload_n (pc := 122) dX12_look_122 rfl ?_
          refine r_getI (pc := 123) dX12_look_123 frX12_257 (by assumption) ?_
          try simp only [u2_I, uR_uR, uR_app, eq_self, Nat.reduceEqDiff, Nat.add_eq_left, Nat.left_eq_add, ↓reduceIte]
          rw [up_n _ _ (show 14 ≠ 13 by decide), up_s]
          refine r_iconst (pc := 126) dX12_look_126 ?_
          refine r_icmp_ge (pc := 127) 134 dX12_look_127 (by decide) (by first | omega | exact nb _) (by first | omega | exact nb _) (fun h127 => ?_) (fun h127 => ?_)
          · skip
            refine r_iconst (pc := 134) dX12_look_134 ?_
            refine r_istore_n (pc := 135) dX12_look_135 (by decide) ?_
            first
            | (exfalso; omega)
            | (have hl : ¬ isLet (b S) = true := bf h85
               have hf : isFig (b S) = true := bt h96
               have h59 : ¬ b S = 59 := fun e => by rw [e] at hf; exact absurd hf (by decide)
               have hr : runB isFig b (n - S) S = runB isFig b (n - (S + 1)) (S + 1) := by rw [show n - S = (n - (S + 1)) + 1 by omega, runB_st, if_pos hf]
               rw [if_neg (by omega), if_neg h59, if_neg hl, if_pos hf, hr] at htd
               refine lN () (by omega) (by rw [htd]) (by rw [htd]) (by rw [htd]) (n - (S + 1)) (S + 1) _ _ _ (by omega) (by omega) rfl ?_ ?_ ?_ ?_ ?_ ?_
               · simp [up_app, h11]
               · simp [up_app, h12]
               · simp [up_app]; omega
               · simp [up_app]
               · simp [up_app]
               · simp [up_app, hw4])
          · skip
            refine r_iconst (pc := 130) dX12_look_130 ?_
            refine r_goto (pc := 131) 135 dX12_look_131 (by decide) ?_
            refine r_istore_n (pc := 135) dX12_look_135 (by decide) ?_
            first
            | (exfalso; omega)
            | (have hl : ¬ isLet (b S) = true := bf h85
               have hf : isFig (b S) = true := bt h96
               have h59 : ¬ b S = 59 := fun e => by rw [e] at hf; exact absurd hf (by decide)
               have hr : runB isFig b (n - S) S = runB isFig b (n - (S + 1)) (S + 1) := by rw [show n - S = (n - (S + 1)) + 1 by omega, runB_st, if_pos hf]
               rw [if_neg (by omega), if_neg h59, if_neg hl, if_pos hf, hr] at htd
               refine lN () (by omega) (by rw [htd]) (by rw [htd]) (by rw [htd]) (n - (S + 1)) (S + 1) _ _ _ (by omega) (by omega) rfl ?_ ?_ ?_ ?_ ?_ ?_
               · simp [up_app, h11]
               · simp [up_app, h12]
               · simp [up_app]; omega
               · simp [up_app]
               · simp [up_app]
               · simp [up_app, hw4])
      · skip
        refine r_iconst (pc := 88) dX12_look_88 ?_
        refine r_goto (pc := 89) 114 dX12_look_89 (by decide) ?_
        refine r_putI (pc := 114) dX12_look_114 fwX12_257 (by assumption) (by first | omega | exact nb _) ?_
        try simp only [u2_I, uR_uR, uR_app, eq_self, Nat.reduceEqDiff, Nat.add_eq_left, Nat.left_eq_add, ↓reduceIte]
        refine r_aload_n (pc := 117) dX12_look_117 rfl ?_
        refine r_iconst (pc := 118) dX12_look_118 ?_
        refine r_putI (pc := 119) dX12_look_119 fwX12_254 (by assumption) (by first | omega | exact nb _) ?_
        try simp only [u2_I, uR_uR, uR_app, eq_self, Nat.reduceEqDiff, Nat.add_eq_left, Nat.left_eq_add, ↓reduceIte]
        refine r_aload_n (pc := 122) dX12_look_122 rfl ?_
        refine r_getI (pc := 123) dX12_look_123 frX12_257 (by assumption) ?_
        try simp only [u2_I, uR_uR, uR_app, eq_self, Nat.reduceEqDiff, Nat.add_eq_left, Nat.left_eq_add, ↓reduceIte]
        rw [up_n _ _ (show 14 ≠ 13 by decide), up_s]
        refine r_iconst (pc := 126) dX12_look_126 ?_
        refine r_icmp_ge (pc := 127) 134 dX12_look_127 (by decide) (by first | omega | exact nb _) (by first | omega | exact nb _) (fun h127 => ?_) (fun h127 => ?_)
        · skip
          refine r_iconst (pc := 134) dX12_look_134 ?_
          refine r_istore_n (pc := 135) dX12_look_135 (by decide) ?_
          first
          | (exfalso; omega)
          | (have hf : isLet (b S) = true := bt h85
             have h59 : ¬ b S = 59 := fun e => by rw [e] at hf; exact absurd hf (by decide)
             rw [if_neg (by omega), if_neg h59, if_pos hf] at htd
             refine lW () (by omega) (by rw [htd]) (by rw [htd]) (by rw [htd]) (n - (S + 1)) (S + 1) _ _ _ (by omega) (by omega) rfl ?_ ?_ ?_ ?_ ?_ ?_
             · simp [up_app, h11]
             · simp [up_app, h12]
             · simp [up_app]; omega
             · simp [up_app]
             · simp [up_app]
             · simp [up_app, hw4])
        · skip
          refine r_iconst (pc := 130) dX12_look_130 ?_
          refine r_goto (pc := 131) 135 dX12_look_131 (by decide) ?_
          refine r_istore_n (pc := 135) dX12_look_135 (by decide) ?_
          first
          | (exfalso; omega)
          | (have hf : isLet (b S) = true := bt h85
             have h59 : ¬ b S = 59 := fun e => by rw [e] at hf; exact absurd hf (by decide)
             rw [if_neg (by omega), if_neg h59, if_pos hf] at htd
             refine lW () (by omega) (by rw [htd]) (by rw [htd]) (by rw [htd]) (n - (S + 1)) (S + 1) _ _ _ (by omega) (by omega) rfl ?_ ?_ ?_ ?_ ?_ ?_
             · simp [up_app, h11]
             · simp [up_app, h12]
             · simp [up_app]; omega
             · simp [up_app]
             · simp [up_app]
             · simp [up_app, hw4])
    · skip
      refine t_vret (pc := 69) dX12_look_69 rfl ?_
      rw [if_pos (by omega)] at htd
      subst htd
      refine ⟨⟨_, rfl, ?_, ?_, ?_, ?_, ?_, ?_⟩, rfl, rfl⟩
      · simp [up_app, h11]
      · simp [up_app, h12]
      · simp [up_app]; omega
      · simp [up_app]; rfl
      · intro h; exact absurd h (by show ¬ (0 : Int) = 3; decide)
      · simp [up_app, hw4]
  have skip : ∀ (d p : Nat) (W : Nat → Int), p + d = n → skp b d p = S → W 11 = (n : Int) → W 12 = (p : Int) → W 4 = I m 4 → Wd G yX12_look cX12_look 5 none 2 (C.2.1 + 0, C.2.2 + 0) (NV C (QK m n T V I P L)) 5 [some (.ref m), some (.int (zI x)), none, none, none] [] C (uR I m W) P L := by
    intro d
    induction d with
    | zero =>
      intro p W hd hs h11 h12 hw4
      have hpS : p = S := hs
      refine r_aload_n (pc := 5) dX12_look_5 rfl ?_
      refine r_getI (pc := 6) dX12_look_6 frX12_251 (by assumption) ?_
      try simp only [u2_I, uR_uR, uR_app, eq_self, Nat.reduceEqDiff, Nat.add_eq_left, Nat.left_eq_add, ↓reduceIte]
      rw [h12]
      refine r_aload_n (pc := 9) dX12_look_9 rfl ?_
      refine r_getI (pc := 10) dX12_look_10 frX12_239 (by assumption) ?_
      try simp only [u2_I, uR_uR, uR_app, eq_self, Nat.reduceEqDiff, Nat.add_eq_left, Nat.left_eq_add, ↓reduceIte]
      rw [h11]
      refine r_icmp_ge (pc := 13) 43 dX12_look_13 (by decide) (by omega) (by omega) (fun h13 => ?_) (fun h13 => ?_)
      · skip
        exact rest _ _ _ W (by omega) h11 (by rw [h12, hpS]) hw4
      · exfalso; omega
    | succ d ih =>
      intro p W hd hs h11 h12 hw4
      rw [skp_st] at hs
      have hbp := hbb p (by omega)
      refine r_aload_n (pc := 5) dX12_look_5 rfl ?_
      refine r_getI (pc := 6) dX12_look_6 frX12_251 (by assumption) ?_
      try simp only [u2_I, uR_uR, uR_app, eq_self, Nat.reduceEqDiff, Nat.add_eq_left, Nat.left_eq_add, ↓reduceIte]
      rw [h12]
      refine r_aload_n (pc := 9) dX12_look_9 rfl ?_
      refine r_getI (pc := 10) dX12_look_10 frX12_239 (by assumption) ?_
      try simp only [u2_I, uR_uR, uR_app, eq_self, Nat.reduceEqDiff, Nat.add_eq_left, Nat.left_eq_add, ↓reduceIte]
      rw [h11]
      refine r_icmp_ge (pc := 13) 43 dX12_look_13 (by decide) (by omega) (by omega) (fun h13 => ?_) (fun h13 => ?_)
      · exfalso; omega
      · skip
        refine r_aload_n (pc := 16) dX12_look_16 rfl ?_
        refine r_getA (pc := 17) dX12_look_17 frX12_39 (by assumption) (by assumption) ?_
        refine r_aload_n (pc := 20) dX12_look_20 rfl ?_
        refine r_getI (pc := 21) dX12_look_21 frX12_251 (by assumption) ?_
        try simp only [u2_I, uR_uR, uR_app, eq_self, Nat.reduceEqDiff, Nat.add_eq_left, Nat.left_eq_add, ↓reduceIte]
        rw [h12]
        refine r_iald (j := p) (pc := 24) dX12_look_24 (by assumption) (by omega) (by omega) (by omega) ?_
        try simp only [u2_I, uR_uR, uR_app, eq_self, Nat.reduceEqDiff, Nat.add_eq_left, Nat.left_eq_add, ↓reduceIte]
        rw [← hb]
        refine r_bipush (pc := 25) dX12_look_25 (by decide) ?_
        refine r_icmp_ne (pc := 27) 43 dX12_look_27 (by decide) (by omega) (by omega) (fun h27 => ?_) (fun h27 => ?_)
        · skip
          rw [if_neg h27] at hs
          exact rest _ _ _ W (by omega) h11 (by rw [h12, hs]) hw4
        · skip
          refine r_aload_n (pc := 30) dX12_look_30 rfl ?_
          refine r_dup (pc := 31) dX12_look_31 rfl ?_
          refine r_getI (pc := 32) dX12_look_32 frX12_251 (by assumption) ?_
          try simp only [u2_I, uR_uR, uR_app, eq_self, Nat.reduceEqDiff, Nat.add_eq_left, Nat.left_eq_add, ↓reduceIte]
          rw [h12]
          refine r_iconst (pc := 35) dX12_look_35 ?_
          refine r_iadd (pc := 36) dX12_look_36 ?_
          refine r_putI (pc := 37) dX12_look_37 fwX12_251 (by assumption) (by omega) ?_
          try simp only [u2_I, uR_uR, uR_app, eq_self, Nat.reduceEqDiff, Nat.add_eq_left, Nat.left_eq_add, ↓reduceIte]
          refine r_goto (pc := 40) 5 dX12_look_40 (by decide) ?_
          rw [if_pos h27] at hs
          refine ih (p + 1) _ (by omega) hs ?_ ?_ ?_
          · rw [up_n _ _ (by decide)]; exact h11
          · rw [up_s]; omega
          · rw [up_n _ _ (by decide)]; exact hw4
  refine r_aload_n (pc := 0) dX12_look_0 rfl ?_
  refine r_iload_n (pc := 1) dX12_look_1 rfl ?_
  refine r_putI (pc := 2) dX12_look_2 fwX12_251 (by assumption) (by omega) ?_
  try simp only [u2_I, uR_uR, uR_app, eq_self, Nat.reduceEqDiff, Nat.add_eq_left, Nat.left_eq_add, ↓reduceIte]
  refine skip (n - a) a _ (by omega) hSS ?_ ?_ ?_
  · rw [up_n _ _ (by decide)]; exact hn
  · rw [up_s]; exact hx
  · rw [up_n _ _ (by decide)]
end REF11

