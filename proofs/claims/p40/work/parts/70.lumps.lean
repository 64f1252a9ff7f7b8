/-! image, from, read -/
theorem UI_set (S : LSt) {T : LSt} (h : UI T) : UI (setL S T) := by
  intro j hj
  obtain ⟨a, b⟩ := h j hj
  have e6 : ∀ F H : Nat → Int, setF F H 6 = H 6 := fun F H => by rw [setF_app, if_pos (by omega)]
  have e0 : ∀ F H : Nat → Int, setF F H 0 = H 0 := fun F H => by rw [setF_app, if_pos (by omega)]
  show setF (S.2.2.2.2 (slotL T j)) (T.2.2.2.2 (slotL T j)) 6 ≤ setF S.1 T.1 6 ∧ setF (S.2.2.2.2 (slotL T j)) (T.2.2.2.2 (slotL T j)) 0 = setF S.1 T.1 0
  rw [e6, e6, e0, e0]
  exact ⟨a, b⟩
theorem UI_0 {S : LSt} (h : S.2.2.2.1 = 0) : UI S := fun j hj => by rw [h] at hj; omega
theorem YI.img {G : WG} {C : CF} {I I1 : MI} {P P1 : MP} {Y : Int} {i : Nat} (h : YI G C I P Y) (h2 : i < 2) (hi : outL I I1 (gB G + 171 + 80 * i)) (hp : outQ P P1 (gB G + 171 + 80 * i)) (hl : LumpL G C P1 (gB G + 171 + 80 * i)) (hL : LI (rdL I1 (gB G + 171 + 80 * i)) Y) (hW : WaysL C P1 (gB G + 171 + 80 * i) (rdL I1 (gB G + 171 + 80 * i))) (hU : UI (rdL I1 (gB G + 171 + 80 * i))) : YI G C I1 P1 Y := by
  obtain ⟨⟨y1, y2, y3, y4, y5, y6, y7, y8, y9, yr, yl1, yl2, yl3, yl4, yt, yk⟩, ⟨l1, l2, l3, l4⟩, ⟨w1, w2, w3, w4⟩, ⟨v1, v2, v3⟩, ht, ⟨n, hn⟩, hto, hs0, hg0, hx, hst, hlo⟩ := h
  have e1 : rdL I1 (gB G + 11) = rdL I (gB G + 11) := rdL_eqr (fun x hx => hi x (by omega))
  have e2 : rdL I1 (gB G + 91) = rdL I (gB G + 91) := rdL_eqr (fun x hx => hi x (by omega))
  have e0 : P1 (gB G) = P (gB G) := hp _ (by omega)
  have e5 : P1 (gB G + 5) = P (gB G + 5) := hp _ (by omega)
  have hYL : LumpL G C P1 (gB G + 171) → LumpL G C P1 (gB G + 251) → YL G C P1 := fun q3 q4 => ⟨y1, y2, by rw [e0]; exact y3, by rw [e0]; exact y4, by rw [e0]; exact y5, by rw [e0]; exact y6, by rw [e0]; exact y7, by rw [e0]; exact y8, by rw [e0]; exact y9, yr.eqp (hp _ (by omega)), yl1.eqp (fun x hx => hp x (by omega)), yl2.eqp (fun x hx => hp x (by omega)), q3, q4, yt.eqp (fun x hx => hp x (by omega)), yk.1, by rw [e5]; exact yk.2⟩
  have hTF : ∀ i, 0 ≤ i → i < 9 → TF C I1 P1 (gB G + 331 + 6 + 10 * i) := fun j a b => TF_eqr (ht j a b) (fun x hx => hi x (by omega)) (fun x hx => hp x (by omega))
  have hRe : ∃ n, ReadI I1 (gB G + 1) n := ⟨n, by rw [hi _ (by omega)]; exact hn.1, hn.2.1, by rw [hi _ (by omega)]; exact hn.2.2⟩
  have rest : TxtL G C I1 ∧ StatL G C I1 ∧ LowL G := ⟨TxtL_eqr hx hlo (fun x hx => hi x (by omega)), StatL_eqr hst hlo (fun x hx => hi x (by omega)), hlo⟩
  have h1w := w1.eqp (P1 := P1) (fun x hx => hp x (by omega))
  have h2w := w2.eqp (P1 := P1) (fun x hx => hp x (by omega))
  unfold YI
  rw [e1, e2]
  rcases (show i = 0 ∨ i = 1 by omega) with rfl | rfl
  · have e4 : rdL I1 (gB G + 251) = rdL I (gB G + 251) := rdL_eqr (fun x hx => hi x (by omega))
    rw [e4]
    exact ⟨hYL hl (yl4.eqp (fun x hx => hp x (by omega))), ⟨l1, l2, hL, l4⟩, ⟨h1w, h2w, hW, w4.eqp (fun x hx => hp x (by omega))⟩, ⟨v1, hU, v3⟩, hTF, hRe, by rw [hi _ (by omega)]; exact hto, by rw [hi _ (by omega)]; exact hs0, by rw [hi _ (by omega)]; exact hg0, rest⟩
  · have e3 : rdL I1 (gB G + 171) = rdL I (gB G + 171) := rdL_eqr (fun x hx => hi x (by omega))
    rw [e3]
    exact ⟨hYL (yl3.eqp (fun x hx => hp x (by omega))) hl, ⟨l1, l2, l3, hL⟩, ⟨h1w, h2w, w3.eqp (fun x hx => hp x (by omega)), hW⟩, ⟨v1, v2, hU⟩, hTF, hRe, by rw [hi _ (by omega)]; exact hto, by rw [hi _ (by omega)]; exact hs0, by rw [hi _ (by omega)]; exact hg0, rest⟩
theorem YI.draft {G : WG} {C : CF} {I I1 : MI} {P P1 : MP} {Y : Int} (h : YI G C I P Y) (hi : ∀ x, x ≠ gB G + 1 → x ≠ gB G + 1 + 2 → (x < gB G + 91 ∨ gB G + 91 + 80 ≤ x) → I1 x = I x) (h2 : I1 (gB G + 1) 2 = I (gB G + 1) 2) (hp : outQ P P1 (gB G + 91)) (hl : LumpL G C P1 (gB G + 91)) (hL : LI (rdL I1 (gB G + 91)) Y) (hW : WaysL C P1 (gB G + 91) (rdL I1 (gB G + 91))) (ht3 : ∀ j, j < 3 → iR (I1 (gB G + 1 + 2) j)) : YI G C I1 P1 Y := by
  obtain ⟨⟨y1, y2, y3, y4, y5, y6, y7, y8, y9, yr, yl1, yl2, yl3, yl4, yt, yk⟩, ⟨l1, l2, l3, l4⟩, ⟨w1, w2, w3, w4⟩, ⟨v1, v2, v3⟩, ht, ⟨n, hn⟩, hto, hs0, hg0, hx, hst, hlo⟩ := h
  have e1 : rdL I1 (gB G + 11) = rdL I (gB G + 11) := rdL_eqr (fun x hx => hi x (by omega) (by omega) (by omega))
  have e3 : rdL I1 (gB G + 171) = rdL I (gB G + 171) := rdL_eqr (fun x hx => hi x (by omega) (by omega) (by omega))
  have e4 : rdL I1 (gB G + 251) = rdL I (gB G + 251) := rdL_eqr (fun x hx => hi x (by omega) (by omega) (by omega))
  have e0 : P1 (gB G) = P (gB G) := hp _ (by omega)
  have e5 : P1 (gB G + 5) = P (gB G + 5) := hp _ (by omega)
  unfold YI
  rw [e1, e3, e4]
  exact ⟨⟨y1, y2, by rw [e0]; exact y3, by rw [e0]; exact y4, by rw [e0]; exact y5, by rw [e0]; exact y6, by rw [e0]; exact y7, by rw [e0]; exact y8, by rw [e0]; exact y9, yr.eqp (hp _ (by omega)), yl1.eqp (fun x hx => hp x (by omega)), hl, yl3.eqp (fun x hx => hp x (by omega)), yl4.eqp (fun x hx => hp x (by omega)), yt.eqp (fun x hx => hp x (by omega)), yk.1, by rw [e5]; exact yk.2⟩, ⟨l1, hL, l3, l4⟩, ⟨w1.eqp (fun x hx => hp x (by omega)), hW, w3.eqp (fun x hx => hp x (by omega)), w4.eqp (fun x hx => hp x (by omega))⟩, ⟨v1, v2, v3⟩, fun j a b => TF_eqr (ht j a b) (fun x hx => hi x (by omega) (by omega) (by omega)) (fun x hx => hp x (by omega)), ⟨n, by rw [h2]; exact hn.1, hn.2.1, by rw [hi _ (by omega) (by omega) (by omega)]; exact hn.2.2⟩, ht3, by rw [hi _ (by omega) (by omega) (by omega)]; exact hs0, by rw [hi _ (by omega) (by omega) (by omega)]; exact hg0, TxtL_eqr hx hlo (fun x hx => hi x (by omega) (by omega) (by omega)), StatL_eqr hst hlo (fun x hx => hi x (by omega) (by omega) (by omega)), hlo⟩
def yIm (S : YS) (i : Nat) (T : LSt) (k : Int) : YS := (S.1, (if i = 0 then T else S.2.1), (if i = 0 then S.2.2.1 else T), S.2.2.2.1, S.2.2.2.2.1, k, S.2.2.2.2.2.2)
def imgL (S : YS) (i : Nat) : LSt := if i = 0 then S.2.1 else S.2.2.1
theorem rdL_img {G : WG} {I : MI} {L : ML} {i : Nat} (h : i < 2) : rdL I (gB G + 171 + 80 * i) = imgL (rdY G I L) i := by
  rcases (show i = 0 ∨ i = 1 by omega) with rfl | rfl <;> rfl
theorem rdY_img {G : WG} {I I1 : MI} {L : ML} {T : LSt} {i : Nat} {k : Int} (h2 : i < 2) (h : outL I I1 (gB G + 171 + 80 * i)) (hT : rdL I1 (gB G + 171 + 80 * i) = T) : rdY G (u2 I1 (gB G) 7 k) L = yIm (rdY G I L) i T k := by
  have a : ∀ x, x ≠ gB G → (u2 I1 (gB G) 7 k) x = I1 x := u2_ow I1 7 k
  rw [rdY_own a, u2_s, u2_k _ _ _ _ (by decide), u2_k _ _ _ _ (by decide), u2_k _ _ _ _ (by decide)]
  unfold rdY yIm
  rw [rdL_eqr (I1 := I1) (I := I) (l := gB G + 11) (fun x hx => h x (by omega)), h (gB G + 2) (by omega), h (gB G + 1) (by omega), h (gB G) (by omega)]
  rcases (show i = 0 ∨ i = 1 by omega) with rfl | rfl
  · rw [rdL_eqr (I1 := I1) (I := I) (l := gB G + 251) (fun x hx => h x (by omega)), show rdL I1 (gB G + 171) = T from hT]; rfl
  · rw [rdL_eqr (I1 := I1) (I := I) (l := gB G + 171) (fun x hx => h x (by omega)), show rdL I1 (gB G + 251) = T from hT]; rfl
theorem YI.lumpI {G : WG} {C : CF} {I : MI} {P : MP} {Y : Int} {i : Nat} (h : YI G C I P Y) (h2 : i < 2) : LumpL G C P (gB G + 171 + 80 * i) ∧ WaysL C P (gB G + 171 + 80 * i) (rdL I (gB G + 171 + 80 * i)) ∧ LI (rdL I (gB G + 171 + 80 * i)) Y ∧ UI (rdL I (gB G + 171 + 80 * i)) := by
  obtain ⟨⟨y1, y2, y3, y4, y5, y6, y7, y8, y9, yr, yl1, yl2, yl3, yl4, yt, yk⟩, ⟨l1, l2, l3, l4⟩, ⟨w1, w2, w3, w4⟩, ⟨v1, v2, v3⟩, -⟩ := h
  rcases (show i = 0 ∨ i = 1 by omega) with rfl | rfl
  · exact ⟨yl3, w3, l3, v2⟩
  · exact ⟨yl4, w4, l4, v3⟩
def imageS (S : YS) (i : Int) : Int × YS := if 0 ≤ i ∧ i ≤ 1 then (1, yIm S i.toNat (setL (imgL S i.toNat) S.1) (b_or S.2.2.2.2.2.1 (b_shl 1 i))) else (-2, yB S)
theorem sX11_image {G : WG} {C : CF} {I : MI} {P : MP} {L : ML} {Y i : Int} (h : YI G C I P Y := by assumption) (hi' : iR i := by omega) : SX11_image G [.ref (gB G), .int (zI i)] C I P L (NI C (QY G (imageS (rdY G I L) i).1 (imageS (rdY G I L) i).2 Y C)) := by
  have hyl := h.1
  obtain ⟨hK, hK4, hP0, hP1, hP2, hP3, hP4, hP5, hP6, hr, hl, hl2, hl3, hl4, htr, hKd⟩ := id hyl
  have hKl := hl.2.1
  have hKt := htr.2.1
  have hPb : P (gB G + 11) 1 = some (gB G + 12) := hl.2.2.2.2.1
  have hb : BooksL G C P (gB G + 12) := hl.2.2.2.2.2.2.1
  have hKb := hb.2.1
  have hBI : BI (rdB I (gB G + 12)) := h.2.1.1.2.1
  have hPf : P (gB G + 11) 0 = some (gB G + 21) := hl.2.2.2.1
  have hf : FarmL G C P (gB G + 21) := hl.2.2.2.2.2.2.2.1
  have hKf := hf.2.1
  have hF : FI (rdF I (gB G + 21)) Y := h.2.1.1.1
  have hW : WayL C P (gB G + 21) (rdF I (gB G + 21)) := h.2.2.1.1.1
  have hs6 := hF.2.2.2.2.2.2.1
  have e10 : I (gB G + 21) 10 = rdF I (gB G + 21) 6 := at_10 I (gB G + 21)
  have eS : (rdY G I L).1.1 6 = rdF I (gB G + 21) 6 := rfl
  have hw4 := hBI.2.2.2.1
  have e3 : I (gB G + 12) 3 = ((rdB I (gB G + 12) 90).toNat : Int) := by rw [ab_3 I (gB G + 12)]; omega
  have e3' : I (gB G + 12) 3 = rdB I (gB G + 12) 90 := ab_3 I (gB G + 12)
  have eS3 : (rdY G I L).1.2.1 90 = rdB I (gB G + 12) 90 := rfl
  have hLI := h.2.1.1
  have hWs := h.2.2.1.1
  have hU := h.2.2.2.1.1
  refine en_I (by decide +kernel) (Nat.le_of_ble_eq_true rfl) ?_
  change Wd _ _ _ _ _ _ _ _ 0 [some _, some _] [] _ _ _ _
  refine r_iload_n (pc := 0) dX11_image_0 rfl ?_
  refine r_iconst (pc := 1) dX11_image_1 ?_
  refine r_iconst (pc := 2) dX11_image_2 ?_
  refine i_S3ix (pc := 3) okX11_within staX11_within q317 dX11_image_3 (by decide) (Nat.le_of_ble_eq_true rfl) (sX11_within) ?_
  refine r_if_ne (pc := 6) 16 dX11_image_6 (by decide) (by first | omega | (split <;> decide)) (fun h6 => ?_) (fun h6 => ?_)
  · skip
    refine r_aload_n (pc := 16) dX11_image_16 rfl ?_
    refine r_iload_n (pc := 17) dX11_image_17 rfl ?_
    have h1 := wt h6
    have hi2 : i.toNat < 2 := by omega
    obtain ⟨hlm, hWm, hLm, hUm⟩ := h.lumpI hi2
    have hKi := hlm.2.1
    refine i_V1rx (pc := 18) okX11_imageAt inX11_imageAt selX11_imageAt q667 dX11_image_18 (by assumption) rfl (by decide) (Nat.le_of_ble_eq_true rfl) (sX11_imageAt (i := i.toNat)) ?_
    refine r_aload_n (pc := 21) dX11_image_21 rfl ?_
    refine r_getP (pc := 22) dX11_image_22 frX11_40 (by assumption) (by assumption) ?_
    refine i_V1vg (pc := 25) okX5_setTo inX5_setTo selX5_setTo q671 dX11_image_25 (by assumption) rfl (by decide) (Nat.le_of_ble_eq_true rfl) (sX5_setTo (Y := Y)) (fun I3 P3 L3 hq3 => ?_)
    obtain ⟨hT3, hO3, hQ3, hl3', hW3, rfl⟩ := hq3
    have hYI3 : YI G C I3 P3 Y := h.img hi2 hO3 hQ3 hl3' (by rw [hT3]; exact LI_set hLm hLI) (by rw [hT3]; exact hW3) (by rw [hT3]; exact UI_set _ hU)
    have ek : I3 (gB G) 7 = I (gB G) 7 := by rw [hO3 _ (by omega)]
    refine r_aload_n (pc := 28) dX11_image_28 rfl ?_
    refine r_dup (pc := 29) dX11_image_29 rfl ?_
    refine r_getI (pc := 30) dX11_image_30 frX11_291 (by assumption) ?_
    refine r_iconst (pc := 33) dX11_image_33 ?_
    refine r_iload_n (pc := 34) dX11_image_34 rfl ?_
    refine r_ishl (pc := 35) dX11_image_35 ?_
    refine r_ior (pc := 36) dX11_image_36 ?_
    refine r_putI (pc := 37) dX11_image_37 fwX11_291 (by assumption) (by first | omega | (split <;> decide)) ?_
    refine r_iconst (pc := 40) dX11_image_40 ?_
    refine t_iret (pc := 41) dX11_image_41 rfl rfl ?_
    unfold imageS
    rw [if_pos h1]
    refine ⟨rfl, ?_, hYI3.own (u2_ow I3 7 _)⟩
    rw [ek, rdY_img hi2 hO3 hT3, rdL_img (L := L) hi2]; rfl
  · skip
    refine r_aload_n (pc := 9) dX11_image_9 rfl ?_
    refine r_bipush (pc := 10) dX11_image_10 (by decide) ?_
    refine i_V1ix (pc := 12) okX11_refuseBad inX11_refuseBad selX11_refuseBad q320 dX11_image_12 (by assumption) rfl (by decide) (Nat.le_of_ble_eq_true rfl) (sX11_refuseBad) ?_
    refine t_iret (pc := 15) dX11_image_15 rfl rfl ?_
    unfold imageS
    rw [if_neg (wf h6)]
    exact QY_bad h
def fromS (S : YS) (i : Int) : Int × YS := if 0 ≤ i ∧ i ≤ 1 then (if b_and (b_shr S.2.2.2.2.2.1 i) 1 = 0 then (-3, yN S) else (1, yLu S (setL S.1 (imgL S i.toNat)))) else (-2, yB S)
theorem sX11_from {G : WG} {C : CF} {I : MI} {P : MP} {L : ML} {Y i : Int} (h : YI G C I P Y := by assumption) (hi' : iR i := by omega) : SX11_from G [.ref (gB G), .int (zI i)] C I P L (NI C (QY G (fromS (rdY G I L) i).1 (fromS (rdY G I L) i).2 Y C)) := by
  have hyl := h.1
  obtain ⟨hK, hK4, hP0, hP1, hP2, hP3, hP4, hP5, hP6, hr, hl, hl2, hl3, hl4, htr, hKd⟩ := id hyl
  have hKl := hl.2.1
  have hKt := htr.2.1
  have hPb : P (gB G + 11) 1 = some (gB G + 12) := hl.2.2.2.2.1
  have hb : BooksL G C P (gB G + 12) := hl.2.2.2.2.2.2.1
  have hKb := hb.2.1
  have hBI : BI (rdB I (gB G + 12)) := h.2.1.1.2.1
  have hPf : P (gB G + 11) 0 = some (gB G + 21) := hl.2.2.2.1
  have hf : FarmL G C P (gB G + 21) := hl.2.2.2.2.2.2.2.1
  have hKf := hf.2.1
  have hF : FI (rdF I (gB G + 21)) Y := h.2.1.1.1
  have hW : WayL C P (gB G + 21) (rdF I (gB G + 21)) := h.2.2.1.1.1
  have hs6 := hF.2.2.2.2.2.2.1
  have e10 : I (gB G + 21) 10 = rdF I (gB G + 21) 6 := at_10 I (gB G + 21)
  have eS : (rdY G I L).1.1 6 = rdF I (gB G + 21) 6 := rfl
  have hw4 := hBI.2.2.2.1
  have e3 : I (gB G + 12) 3 = ((rdB I (gB G + 12) 90).toNat : Int) := by rw [ab_3 I (gB G + 12)]; omega
  have e3' : I (gB G + 12) 3 = rdB I (gB G + 12) 90 := ab_3 I (gB G + 12)
  have eS3 : (rdY G I L).1.2.1 90 = rdB I (gB G + 12) 90 := rfl
  have hLI := h.2.1.1
  have hWs := h.2.2.1.1
  have hU := h.2.2.2.1.1
  refine en_I (by decide +kernel) (Nat.le_of_ble_eq_true rfl) ?_
  change Wd _ _ _ _ _ _ _ _ 0 [some _, some _] [] _ _ _ _
  refine r_iload_n (pc := 0) dX11_from_0 rfl ?_
  refine r_iconst (pc := 1) dX11_from_1 ?_
  refine r_iconst (pc := 2) dX11_from_2 ?_
  refine i_S3ix (pc := 3) okX11_within staX11_within q317 dX11_from_3 (by decide) (Nat.le_of_ble_eq_true rfl) (sX11_within) ?_
  refine r_if_ne (pc := 6) 16 dX11_from_6 (by decide) (by first | omega | exact iR_self _ | (split <;> decide)) (fun h6 => ?_) (fun h6 => ?_)
  · skip
    refine r_aload_n (pc := 16) dX11_from_16 rfl ?_
    have h1 := wt h6
    have hi2 : i.toNat < 2 := by omega
    obtain ⟨hlm, hWm, hLm, hUm⟩ := h.lumpI hi2
    refine r_getI (pc := 17) dX11_from_17 frX11_291 (by assumption) ?_
    refine r_iload_n (pc := 20) dX11_from_20 rfl ?_
    refine r_ishr (pc := 21) dX11_from_21 ?_
    refine r_iconst (pc := 22) dX11_from_22 ?_
    refine r_iand (pc := 23) dX11_from_23 ?_
    refine r_if_ne (pc := 24) 32 dX11_from_24 (by decide) (by first | omega | exact iR_self _ | (split <;> decide)) (fun h24 => ?_) (fun h24 => ?_)
    · skip
      refine r_aload_n (pc := 32) dX11_from_32 rfl ?_
      refine r_getP (pc := 33) dX11_from_33 frX11_40 (by assumption) (by assumption) ?_
      refine r_aload_n (pc := 36) dX11_from_36 rfl ?_
      refine r_iload_n (pc := 37) dX11_from_37 rfl ?_
      refine i_V1rx (pc := 38) okX11_imageAt inX11_imageAt selX11_imageAt q667 dX11_from_38 (by assumption) rfl (by decide) (Nat.le_of_ble_eq_true rfl) (sX11_imageAt (i := i.toNat)) ?_
      refine i_V1vg (pc := 41) okX5_setTo inX5_setTo selX5_setTo q671 dX11_from_41 (by assumption) rfl (by decide) (Nat.le_of_ble_eq_true rfl) (sX5_setTo (Y := Y)) (fun I3 P3 L3 hq3 => ?_)
      obtain ⟨hT3, hO3, hQ3, hl3', hW3, rfl⟩ := hq3
      refine r_iconst (pc := 44) dX11_from_44 ?_
      refine t_iret (pc := 45) dX11_from_45 rfl rfl ?_
      unfold fromS
      rw [if_pos h1, if_neg (show ¬ b_and (b_shr (rdY G I L).2.2.2.2.2.1 i) 1 = 0 from h24), ← rdL_img hi2]
      exact ⟨rfl, rdY_lump hO3 hT3, h.lump hO3 hQ3 hl3' (by rw [hT3]; exact LI_set hLI hLm) (by rw [hT3]; exact hW3) (by rw [hT3]; exact UI_set _ hUm) (Int.le_refl Y)⟩
    · skip
      refine r_aload_n (pc := 27) dX11_from_27 rfl ?_
      refine i_V0ix (pc := 28) okX11_refuseNo inX11_refuseNo selX11_refuseNo q517 dX11_from_28 (by assumption) rfl (by decide) (Nat.le_of_ble_eq_true rfl) (sX11_refuseNo) ?_
      refine t_iret (pc := 31) dX11_from_31 rfl rfl ?_
      unfold fromS
      rw [if_pos h1, if_pos (show b_and (b_shr (rdY G I L).2.2.2.2.2.1 i) 1 = 0 from h24)]
      exact QY_no h
  · skip
    refine r_aload_n (pc := 9) dX11_from_9 rfl ?_
    refine r_bipush (pc := 10) dX11_from_10 (by decide) ?_
    refine i_V1ix (pc := 12) okX11_refuseBad inX11_refuseBad selX11_refuseBad q320 dX11_from_12 (by assumption) rfl (by decide) (Nat.le_of_ble_eq_true rfl) (sX11_refuseBad) ?_
    refine t_iret (pc := 15) dX11_from_15 rfl rfl ?_
    unfold fromS
    rw [if_neg (wf h6)]
    exact QY_bad h

