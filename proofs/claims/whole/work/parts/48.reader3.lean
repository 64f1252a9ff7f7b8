/-! an item: its word, its numbers, what it tells -/
theorem bt {b : Bool} (h : ¬ (if b = true then (1 : Int) else 0) = 0) : b = true := by cases b <;> simp_all
theorem bf {b : Bool} (h : (if b = true then (1 : Int) else 0) = 0) : ¬ b = true := by cases b <;> simp_all
def spellB (b : Nat → Int) (s e i : Nat) : Bool := decide (e = s + ((slen[i]?).getD 0) ∧ ∀ j, j < (slen[i]?).getD 0 → b (s + j) = chS i j)
theorem sX7_spells {G : WG} {C : CF} {I : MI} {P : MP} {L : ML} {r n s e i m : Nat} (hr : ReadL G C P r := by assumption) (hI : ReadI I r n := by assumption) (hT : TxtL G C I := by assumption) (hs : I r 3 = (s : Int) := by assumption) (he : I r 4 = (e : Int) := by assumption) (hse : s ≤ e ∧ e ≤ n := by omega) (hm : slen[i]? = some m := by rfl) : SX7_spells G [.ref r, .ref (gS G i)] C I P L (NI C (XI (if spellB (I (r + 1)) s e i then 1 else 0) I P L)) := by
  obtain ⟨hB, hK, hK1, hK2, hP0, hP1⟩ := id hr
  obtain ⟨h2, h150, hbb⟩ := id hI
  have hi5 := (slen_in hm).1
  have hm6 := (slen_in hm).2
  have hsp : spellB (I (r + 1)) s e i = decide (e = s + m ∧ ∀ j, j < m → I (r + 1) (s + j) = chS i j) := by unfold spellB; rw [hm]; rfl
  rw [hsp]
  generalize hq : XI (if decide (e = s + m ∧ ∀ j, j < m → I (r + 1) (s + j) = chS i j) = true then 1 else 0) I P L = q
  refine en_I (by decide +kernel) (Nat.le_of_ble_eq_true rfl) ?_
  change Wd _ _ _ _ _ _ _ _ 0 [some _, some _, none] [] _ _ _ _
  have loop : ∀ (d f : Nat) (x : Int), f + d = m → x = (f : Int) → e = s + m → (∀ j, j < f → I (r + 1) (s + j) = chS i j) → Wd G yX7_spells cX7_spells 3 (some .boolean) 5 (C.2.1 + 0, C.2.2 + 0) (NI C q) 20 [some (.ref r), some (.ref (gS G i)), some (.int (zI x))] [] C I P L := by
    intro d
    induction d using Nat.strongRecOn with
    | _ d ih =>
      intro f x hd hx hem hall
      refine r_iload_n (pc := 20) dX7_spells_20 rfl ?_
      refine r_aload_n (pc := 21) dX7_spells_21 rfl ?_
      refine i_Str0ix (pc := 22) okJ0_length_8abf5 (by assumption) rfl inJ0_length_8abf5 selJ0_length_8abf5 q447 dX7_spells_22 rfl (by decide) (Nat.le_of_ble_eq_true rfl) (sJ0_length (n := m)) ?_
      refine r_icmp_ge (pc := 25) 57 dX7_spells_25 (by decide) (by omega) (by omega) (fun h25 => ?_) (fun h25 => ?_)
      · skip
        refine r_iconst (pc := 57) dX7_spells_57 ?_
        refine t_iret (pc := 58) dX7_spells_58 rfl rfl ?_
        subst hq
        refine ⟨?_, rfl, rfl, rfl⟩
        rw [decide_eq_true ⟨hem, fun j hj => hall j (by omega)⟩]; rfl
      · skip
        have hbp := hbb (s + f) (by omega)
        have hc := chS_in ⟨i, hi5⟩ ⟨f, by omega⟩
        simp only at hc
        refine r_aload_n (pc := 28) dX7_spells_28 rfl ?_
        refine r_getA (pc := 29) dX7_spells_29 frX7_9 (by assumption) (by assumption) ?_
        refine r_aload_n (pc := 32) dX7_spells_32 rfl ?_
        refine r_getI (pc := 33) dX7_spells_33 frX7_45 (by assumption) ?_
        refine r_iload_n (pc := 36) dX7_spells_36 rfl ?_
        refine r_iadd (pc := 37) dX7_spells_37 ?_
        refine i_SN2ix (pc := 38) okX11_at staX11_at nwX7_71 dX7_spells_38 (by decide) (Nat.le_of_ble_eq_true rfl) (sX11_at (n := 150) (j := s + f)) ?_
        refine r_aload_n (pc := 41) dX7_spells_41 rfl ?_
        refine r_iload_n (pc := 42) dX7_spells_42 rfl ?_
        refine i_Str1ix (pc := 43) okJ0_charAt_5068e (by assumption) rfl inJ0_charAt_5068e selJ0_charAt_5068e q457 dX7_spells_43 rfl (by decide) (Nat.le_of_ble_eq_true rfl) (sJ0_charAt (n := m) (j := f)) ?_
        refine r_icmp_eq (pc := 46) 51 dX7_spells_46 (by decide) (by omega) (by omega) (fun h46 => ?_) (fun h46 => ?_)
        · skip
          refine r_iinc (pc := 51) dX7_spells_51 rfl ?_
          refine r_goto (pc := 54) 20 dX7_spells_54 (by decide) ?_
          exact ih (d - 1) (by omega) (f + 1) _ (by omega) (by omega) hem (fun j hj => by
            by_cases hjf : j = f
            · subst hjf; exact h46
            · exact hall j (by omega))
        · skip
          refine r_iconst (pc := 49) dX7_spells_49 ?_
          refine t_iret (pc := 50) dX7_spells_50 rfl rfl ?_
          subst hq
          refine ⟨?_, rfl, rfl, rfl⟩
          rw [decide_eq_false (fun hz => h46 (hz.2 f (by omega)))]; rfl
  refine r_aload_n (pc := 0) dX7_spells_0 rfl ?_
  refine r_getI (pc := 1) dX7_spells_1 frX7_32 (by assumption) ?_
  refine r_aload_n (pc := 4) dX7_spells_4 rfl ?_
  refine r_getI (pc := 5) dX7_spells_5 frX7_45 (by assumption) ?_
  refine r_isub (pc := 8) dX7_spells_8 ?_
  refine r_aload_n (pc := 9) dX7_spells_9 rfl ?_
  refine i_Str0ix (pc := 10) okJ0_length_8abf5 (by assumption) rfl inJ0_length_8abf5 selJ0_length_8abf5 q447 dX7_spells_10 rfl (by decide) (Nat.le_of_ble_eq_true rfl) (sJ0_length (n := m)) ?_
  refine r_icmp_eq (pc := 13) 18 dX7_spells_13 (by decide) (by omega) (by omega) (fun h13 => ?_) (fun h13 => ?_)
  · skip
    refine r_iconst (pc := 18) dX7_spells_18 ?_
    refine r_istore_n (pc := 19) dX7_spells_19 (by decide) ?_
    exact loop m 0 _ (by omega) (by omega) (by omega) (fun j hj => by omega)
  · skip
    refine r_iconst (pc := 16) dX7_spells_16 ?_
    refine t_iret (pc := 17) dX7_spells_17 rfl rfl ?_
    subst hq
    refine ⟨?_, rfl, rfl, rfl⟩
    rw [decide_eq_false (fun hz => by have := hz.1; omega)]; rfl
def itemB (b : Nat → Int) (s e : Nat) (so : Int) : Int := if so = 2 then (if spellB b s e 0 = true then 0 else if spellB b s e 1 = true then 1 else if spellB b s e 2 = true then 2 else if spellB b s e 3 = true then 3 else if spellB b s e 4 = true then 4 else -1) else -1
theorem itemB_in (b : Nat → Int) (s e : Nat) (so : Int) : -1 ≤ itemB b s e so ∧ itemB b s e so ≤ 4 := by
  unfold itemB
  (repeat' split) <;> omega
theorem sX7_itemTold {G : WG} {C : CF} {I : MI} {P : MP} {L : ML} {r n s e : Nat} {so : Int} (hr : ReadL G C P r := by assumption) (hI : ReadI I r n := by assumption) (hT : TxtL G C I := by assumption) (hs : I r 3 = (s : Int) := by assumption) (he : I r 4 = (e : Int) := by assumption) (hse : s ≤ e ∧ e ≤ n := by omega) (hso : I r 5 = so := by assumption) (hsr : iR so := by omega) : SX7_itemTold G [.ref r] C I P L (NI C (XI (itemB (I (r + 1)) s e so) I P L)) := by
  obtain ⟨hB, hK, hK1, hK2, hP0, hP1⟩ := id hr
  subst hso
  refine en_I (by decide +kernel) (Nat.le_of_ble_eq_true rfl) ?_
  change Wd _ _ _ _ _ _ _ _ 0 [some _] [] _ _ _ _
  refine r_aload_n (pc := 0) dX7_itemTold_0 rfl ?_
  refine r_getI (pc := 1) dX7_itemTold_1 frX7_38 (by assumption) ?_
  refine r_iconst (pc := 4) dX7_itemTold_4 ?_
  refine r_icmp_eq (pc := 5) 10 dX7_itemTold_5 (by decide) (by first | omega | exact iR_b _) (by first | omega | exact iR_b _) (fun h5 => ?_) (fun h5 => ?_)
  · skip
    refine r_aload_n (pc := 10) dX7_itemTold_10 rfl ?_
    refine r_ldcS (i := 0) (pc := 11) rfl rfl dX7_itemTold_11 ?_
    refine i_V1ix (pc := 13) okX7_spells inX7_spells selX7_spells q443 dX7_itemTold_13 (by assumption) rfl (by decide) (Nat.le_of_ble_eq_true rfl) (sX7_spells (s := s) (e := e) (i := 0) (n := n)) ?_
    refine r_if_eq (pc := 16) 21 dX7_itemTold_16 (by decide) (by first | omega | exact iR_b _) (fun h16 => ?_) (fun h16 => ?_)
    · skip
      refine r_aload_n (pc := 21) dX7_itemTold_21 rfl ?_
      refine r_ldcS (i := 1) (pc := 22) rfl rfl dX7_itemTold_22 ?_
      refine i_V1ix (pc := 24) okX7_spells inX7_spells selX7_spells q443 dX7_itemTold_24 (by assumption) rfl (by decide) (Nat.le_of_ble_eq_true rfl) (sX7_spells (s := s) (e := e) (i := 1) (n := n)) ?_
      refine r_if_eq (pc := 27) 32 dX7_itemTold_27 (by decide) (by first | omega | exact iR_b _) (fun h27 => ?_) (fun h27 => ?_)
      · skip
        refine r_aload_n (pc := 32) dX7_itemTold_32 rfl ?_
        refine r_ldcS (i := 2) (pc := 33) rfl rfl dX7_itemTold_33 ?_
        refine i_V1ix (pc := 35) okX7_spells inX7_spells selX7_spells q443 dX7_itemTold_35 (by assumption) rfl (by decide) (Nat.le_of_ble_eq_true rfl) (sX7_spells (s := s) (e := e) (i := 2) (n := n)) ?_
        refine r_if_eq (pc := 38) 43 dX7_itemTold_38 (by decide) (by first | omega | exact iR_b _) (fun h38 => ?_) (fun h38 => ?_)
        · skip
          refine r_aload_n (pc := 43) dX7_itemTold_43 rfl ?_
          refine r_ldcS (i := 3) (pc := 44) rfl rfl dX7_itemTold_44 ?_
          refine i_V1ix (pc := 46) okX7_spells inX7_spells selX7_spells q443 dX7_itemTold_46 (by assumption) rfl (by decide) (Nat.le_of_ble_eq_true rfl) (sX7_spells (s := s) (e := e) (i := 3) (n := n)) ?_
          refine r_if_eq (pc := 49) 54 dX7_itemTold_49 (by decide) (by first | omega | exact iR_b _) (fun h49 => ?_) (fun h49 => ?_)
          · skip
            refine r_aload_n (pc := 54) dX7_itemTold_54 rfl ?_
            refine r_ldcS (i := 4) (pc := 55) rfl rfl dX7_itemTold_55 ?_
            refine i_V1ix (pc := 57) okX7_spells inX7_spells selX7_spells q443 dX7_itemTold_57 (by assumption) rfl (by decide) (Nat.le_of_ble_eq_true rfl) (sX7_spells (s := s) (e := e) (i := 4) (n := n)) ?_
            refine r_if_eq (pc := 60) 65 dX7_itemTold_60 (by decide) (by first | omega | exact iR_b _) (fun h60 => ?_) (fun h60 => ?_)
            · skip
              refine r_iconst (pc := 65) dX7_itemTold_65 ?_
              refine t_iret (pc := 66) dX7_itemTold_66 rfl rfl ?_
              exact ⟨by unfold itemB; rw [if_pos h5, if_neg (bf h16), if_neg (bf h27), if_neg (bf h38), if_neg (bf h49), if_neg (bf h60)], rfl, rfl, rfl⟩
            · skip
              refine r_iconst (pc := 63) dX7_itemTold_63 ?_
              refine t_iret (pc := 64) dX7_itemTold_64 rfl rfl ?_
              exact ⟨by unfold itemB; rw [if_pos h5, if_neg (bf h16), if_neg (bf h27), if_neg (bf h38), if_neg (bf h49), if_pos (bt h60)], rfl, rfl, rfl⟩
          · skip
            refine r_iconst (pc := 52) dX7_itemTold_52 ?_
            refine t_iret (pc := 53) dX7_itemTold_53 rfl rfl ?_
            exact ⟨by unfold itemB; rw [if_pos h5, if_neg (bf h16), if_neg (bf h27), if_neg (bf h38), if_pos (bt h49)], rfl, rfl, rfl⟩
        · skip
          refine r_iconst (pc := 41) dX7_itemTold_41 ?_
          refine t_iret (pc := 42) dX7_itemTold_42 rfl rfl ?_
          exact ⟨by unfold itemB; rw [if_pos h5, if_neg (bf h16), if_neg (bf h27), if_pos (bt h38)], rfl, rfl, rfl⟩
      · skip
        refine r_iconst (pc := 30) dX7_itemTold_30 ?_
        refine t_iret (pc := 31) dX7_itemTold_31 rfl rfl ?_
        exact ⟨by unfold itemB; rw [if_pos h5, if_neg (bf h16), if_pos (bt h27)], rfl, rfl, rfl⟩
    · skip
      refine r_iconst (pc := 19) dX7_itemTold_19 ?_
      refine t_iret (pc := 20) dX7_itemTold_20 rfl rfl ?_
      exact ⟨by unfold itemB; rw [if_pos h5, if_pos (bt h16)], rfl, rfl, rfl⟩
  · skip
    refine r_iconst (pc := 8) dX7_itemTold_8 ?_
    refine t_iret (pc := 9) dX7_itemTold_9 rfl rfl ?_
    exact ⟨by unfold itemB; rw [if_neg h5], rfl, rfl, rfl⟩
def numsT : List Int := [1, 2, 3, 2, 3]
def leastT : List Int := [2, 0, 0, 0, 0, 0, 0, 1, 0, 0, 0, 0, 0, 0, 1]
def mostT : List Int := [70, 0, 0, 3, 9999, 0, 4, 20, 9, -1, 4, 0, -1, -1, 999]
def atT (l : List Int) (j : Nat) : Int := (l[j]?).getD 0
def StatL (G : WG) (C : CF) (I : MI) : Prop := C.1 (gT G 0) = some (.inr (0, 5)) ∧ C.1 (gT G 1) = some (.inr (0, 15)) ∧ C.1 (gT G 2) = some (.inr (0, 15)) ∧ (∀ j, j < 5 → I (gT G 0) j = atT numsT j) ∧ (∀ j, j < 15 → I (gT G 1) j = atT leastT j) ∧ (∀ j, j < 15 → I (gT G 2) j = atT mostT j)
theorem least_in : ∀ j : Fin 15, 0 ≤ atT leastT j.val ∧ atT leastT j.val ≤ 2 := by decide +kernel
theorem most_in : ∀ j : Fin 15, -1 ≤ atT mostT j.val ∧ atT mostT j.val ≤ 9999 := by decide +kernel
def fitB (item i : Nat) (v t0 fam : Int) : Bool := if item = 4 ∧ i = 1 ∧ v = t0 then false else decide (atT leastT (3 * item + i) ≤ v ∧ v ≤ (if atT mostT (3 * item + i) = -1 then fam - 1 else atT mostT (3 * item + i)))
theorem sX7_fits {G : WG} {C : CF} {I : MI} {P : MP} {L : ML} {r item i : Nat} {x y fam : Int} (hr : ReadL G C P r := by assumption) (hS : StatL G C I := by assumption) (hx : x = (item : Int) := by first | rfl | omega) (hy : y = (i : Int) := by first | rfl | omega) (hit : item < 5 := by omega) (hi : i < 3 := by omega) (hf : 0 ≤ fam ∧ fam ≤ 6 := by omega) (hv : iR (I r 6) := by omega) (ht : iR (I (r + 2) 0) := by omega) : SX7_fits G [.ref r, .int (zI x), .int (zI y), .int (zI fam)] C I P L (NI C (XI (if fitB item i (I r 6) (I (r + 2) 0) fam then 1 else 0) I P L)) := by
  subst hx hy
  obtain ⟨hB, hK, hK1, hK2, hP0, hP1⟩ := id hr
  obtain ⟨s0, s1, s2, s3, s4, s5⟩ := id hS
  have hl := s4 (3 * item + i) (by omega)
  have hm := s5 (3 * item + i) (by omega)
  have li := least_in ⟨3 * item + i, by omega⟩
  have mi := most_in ⟨3 * item + i, by omega⟩
  simp only at li mi
  generalize hq : XI (if fitB item i (I r 6) (I (r + 2) 0) fam then 1 else 0) I P L = q
  refine en_I (by decide +kernel) (Nat.le_of_ble_eq_true rfl) ?_
  change Wd _ _ _ _ _ _ _ _ 0 [some _, some _, some _, some _, none] [] _ _ _ _
  refine r_gets (pc := 0) (zs2 G) q505 dX7_fits_0 ?_
  refine r_iconst (pc := 3) dX7_fits_3 ?_
  refine r_iload_n (pc := 4) dX7_fits_4 rfl ?_
  refine r_imul (pc := 5) dX7_fits_5 ?_
  refine r_iload_n (pc := 6) dX7_fits_6 rfl ?_
  refine r_iadd (pc := 7) dX7_fits_7 ?_
  refine i_SN2ix (pc := 8) okX11_at staX11_at nwX7_71 dX7_fits_8 (by decide) (Nat.le_of_ble_eq_true rfl) (sX11_at (n := 15) (j := 3 * item + i)) ?_
  rw [hm]
  refine r_istore (pc := 11) dX7_fits_11 (by decide) ?_
  refine r_iload (pc := 13) dX7_fits_13 rfl ?_
  refine r_iconst (pc := 15) dX7_fits_15 ?_
  refine r_icmp_ne (pc := 16) 24 dX7_fits_16 (by decide) (by omega) (by omega) (fun h16 => ?_) (fun h16 => ?_)
  · skip
    refine r_iload_n (pc := 24) dX7_fits_24 rfl ?_
    refine r_iconst (pc := 25) dX7_fits_25 ?_
    refine r_icmp_ne (pc := 26) 51 dX7_fits_26 (by decide) (by omega) (by omega) (fun h26 => ?_) (fun h26 => ?_)
    · skip
      refine r_aload_n (pc := 51) dX7_fits_51 rfl ?_
      refine r_getI (pc := 52) dX7_fits_52 frX7_79 (by assumption) ?_
      refine r_gets (pc := 55) (zs1 G) q507 dX7_fits_55 ?_
      refine r_iconst (pc := 58) dX7_fits_58 ?_
      refine r_iload_n (pc := 59) dX7_fits_59 rfl ?_
      refine r_imul (pc := 60) dX7_fits_60 ?_
      refine r_iload_n (pc := 61) dX7_fits_61 rfl ?_
      refine r_iadd (pc := 62) dX7_fits_62 ?_
      refine i_SN2ix (pc := 63) okX11_at staX11_at nwX7_71 dX7_fits_63 (by decide) (Nat.le_of_ble_eq_true rfl) (sX11_at (n := 15) (j := 3 * item + i)) ?_
      rw [hl]
      refine r_iload (pc := 66) dX7_fits_66 rfl ?_
      refine i_SN3ix (pc := 68) okX11_within staX11_within nwX7_115 dX7_fits_68 (by decide) (Nat.le_of_ble_eq_true rfl) (sX11_within) ?_
      refine t_iret (pc := 71) dX7_fits_71 rfl (nar_z (by split <;> simp)) ?_
      subst hq
      refine ⟨?_, rfl, rfl, rfl⟩
      have e : fitB item i (I r 6) (I (r + 2) 0) fam = decide (atT leastT (3 * item + i) ≤ I r 6 ∧ I r 6 ≤ (if atT mostT (3 * item + i) = -1 then fam - 1 else atT mostT (3 * item + i))) := by
        unfold fitB
        rw [if_neg (by omega)]
      rw [e]
      simp only [decide_eq_true_eq]
      first
        | rw [if_neg h16]
        | rw [if_pos h16]
    · skip
      refine r_iload_n (pc := 29) dX7_fits_29 rfl ?_
      refine r_iconst (pc := 30) dX7_fits_30 ?_
      refine r_icmp_ne (pc := 31) 51 dX7_fits_31 (by decide) (by omega) (by omega) (fun h31 => ?_) (fun h31 => ?_)
      · skip
        refine r_aload_n (pc := 51) dX7_fits_51 rfl ?_
        refine r_getI (pc := 52) dX7_fits_52 frX7_79 (by assumption) ?_
        refine r_gets (pc := 55) (zs1 G) q507 dX7_fits_55 ?_
        refine r_iconst (pc := 58) dX7_fits_58 ?_
        refine r_iload_n (pc := 59) dX7_fits_59 rfl ?_
        refine r_imul (pc := 60) dX7_fits_60 ?_
        refine r_iload_n (pc := 61) dX7_fits_61 rfl ?_
        refine r_iadd (pc := 62) dX7_fits_62 ?_
        refine i_SN2ix (pc := 63) okX11_at staX11_at nwX7_71 dX7_fits_63 (by decide) (Nat.le_of_ble_eq_true rfl) (sX11_at (n := 15) (j := 3 * item + i)) ?_
        rw [hl]
        refine r_iload (pc := 66) dX7_fits_66 rfl ?_
        refine i_SN3ix (pc := 68) okX11_within staX11_within nwX7_115 dX7_fits_68 (by decide) (Nat.le_of_ble_eq_true rfl) (sX11_within) ?_
        refine t_iret (pc := 71) dX7_fits_71 rfl (nar_z (by split <;> simp)) ?_
        subst hq
        refine ⟨?_, rfl, rfl, rfl⟩
        have e : fitB item i (I r 6) (I (r + 2) 0) fam = decide (atT leastT (3 * item + i) ≤ I r 6 ∧ I r 6 ≤ (if atT mostT (3 * item + i) = -1 then fam - 1 else atT mostT (3 * item + i))) := by
          unfold fitB
          rw [if_neg (by omega)]
        rw [e]
        simp only [decide_eq_true_eq]
        first
          | rw [if_neg h16]
          | rw [if_pos h16]
      · skip
        refine r_aload_n (pc := 34) dX7_fits_34 rfl ?_
        refine r_getI (pc := 35) dX7_fits_35 frX7_79 (by assumption) ?_
        refine r_aload_n (pc := 38) dX7_fits_38 rfl ?_
        refine r_getA (pc := 39) dX7_fits_39 frX7_15 (by assumption) (by assumption) ?_
        refine r_iconst (pc := 42) dX7_fits_42 ?_
        refine i_SN2ix (pc := 43) okX11_at staX11_at nwX7_71 dX7_fits_43 (by decide) (Nat.le_of_ble_eq_true rfl) (sX11_at (n := 3) (j := 0)) ?_
        refine r_icmp_ne (pc := 46) 51 dX7_fits_46 (by decide) (by omega) (by omega) (fun h46 => ?_) (fun h46 => ?_)
        · skip
          refine r_aload_n (pc := 51) dX7_fits_51 rfl ?_
          refine r_getI (pc := 52) dX7_fits_52 frX7_79 (by assumption) ?_
          refine r_gets (pc := 55) (zs1 G) q507 dX7_fits_55 ?_
          refine r_iconst (pc := 58) dX7_fits_58 ?_
          refine r_iload_n (pc := 59) dX7_fits_59 rfl ?_
          refine r_imul (pc := 60) dX7_fits_60 ?_
          refine r_iload_n (pc := 61) dX7_fits_61 rfl ?_
          refine r_iadd (pc := 62) dX7_fits_62 ?_
          refine i_SN2ix (pc := 63) okX11_at staX11_at nwX7_71 dX7_fits_63 (by decide) (Nat.le_of_ble_eq_true rfl) (sX11_at (n := 15) (j := 3 * item + i)) ?_
          rw [hl]
          refine r_iload (pc := 66) dX7_fits_66 rfl ?_
          refine i_SN3ix (pc := 68) okX11_within staX11_within nwX7_115 dX7_fits_68 (by decide) (Nat.le_of_ble_eq_true rfl) (sX11_within) ?_
          refine t_iret (pc := 71) dX7_fits_71 rfl (nar_z (by split <;> simp)) ?_
          subst hq
          refine ⟨?_, rfl, rfl, rfl⟩
          have e : fitB item i (I r 6) (I (r + 2) 0) fam = decide (atT leastT (3 * item + i) ≤ I r 6 ∧ I r 6 ≤ (if atT mostT (3 * item + i) = -1 then fam - 1 else atT mostT (3 * item + i))) := by
            unfold fitB
            rw [if_neg (by omega)]
          rw [e]
          simp only [decide_eq_true_eq]
          first
            | rw [if_neg h16]
            | rw [if_pos h16]
        · skip
          refine r_iconst (pc := 49) dX7_fits_49 ?_
          refine t_iret (pc := 50) dX7_fits_50 rfl rfl ?_
          subst hq
          refine ⟨?_, rfl, rfl, rfl⟩
          have e : fitB item i (I r 6) (I (r + 2) 0) fam = false := by
            unfold fitB
            rw [if_pos (by omega)]
          rw [e]; rfl
  · skip
    refine r_iload_n (pc := 19) dX7_fits_19 rfl ?_
    refine r_iconst (pc := 20) dX7_fits_20 ?_
    refine r_isub (pc := 21) dX7_fits_21 ?_
    refine r_istore (pc := 22) dX7_fits_22 (by decide) ?_
    refine r_iload_n (pc := 24) dX7_fits_24 rfl ?_
    refine r_iconst (pc := 25) dX7_fits_25 ?_
    refine r_icmp_ne (pc := 26) 51 dX7_fits_26 (by decide) (by omega) (by omega) (fun h26 => ?_) (fun h26 => ?_)
    · skip
      refine r_aload_n (pc := 51) dX7_fits_51 rfl ?_
      refine r_getI (pc := 52) dX7_fits_52 frX7_79 (by assumption) ?_
      refine r_gets (pc := 55) (zs1 G) q507 dX7_fits_55 ?_
      refine r_iconst (pc := 58) dX7_fits_58 ?_
      refine r_iload_n (pc := 59) dX7_fits_59 rfl ?_
      refine r_imul (pc := 60) dX7_fits_60 ?_
      refine r_iload_n (pc := 61) dX7_fits_61 rfl ?_
      refine r_iadd (pc := 62) dX7_fits_62 ?_
      refine i_SN2ix (pc := 63) okX11_at staX11_at nwX7_71 dX7_fits_63 (by decide) (Nat.le_of_ble_eq_true rfl) (sX11_at (n := 15) (j := 3 * item + i)) ?_
      rw [hl]
      refine r_iload (pc := 66) dX7_fits_66 rfl ?_
      refine i_SN3ix (pc := 68) okX11_within staX11_within nwX7_115 dX7_fits_68 (by decide) (Nat.le_of_ble_eq_true rfl) (sX11_within) ?_
      refine t_iret (pc := 71) dX7_fits_71 rfl (nar_z (by split <;> simp)) ?_
      subst hq
      refine ⟨?_, rfl, rfl, rfl⟩
      have e : fitB item i (I r 6) (I (r + 2) 0) fam = decide (atT leastT (3 * item + i) ≤ I r 6 ∧ I r 6 ≤ (if atT mostT (3 * item + i) = -1 then fam - 1 else atT mostT (3 * item + i))) := by
        unfold fitB
        rw [if_neg (by omega)]
      rw [e]
      simp only [decide_eq_true_eq]
      first
        | rw [if_neg h16]
        | rw [if_pos h16]
    · skip
      refine r_iload_n (pc := 29) dX7_fits_29 rfl ?_
      refine r_iconst (pc := 30) dX7_fits_30 ?_
      refine r_icmp_ne (pc := 31) 51 dX7_fits_31 (by decide) (by omega) (by omega) (fun h31 => ?_) (fun h31 => ?_)
      · skip
        refine r_aload_n (pc := 51) dX7_fits_51 rfl ?_
        refine r_getI (pc := 52) dX7_fits_52 frX7_79 (by assumption) ?_
        refine r_gets (pc := 55) (zs1 G) q507 dX7_fits_55 ?_
        refine r_iconst (pc := 58) dX7_fits_58 ?_
        refine r_iload_n (pc := 59) dX7_fits_59 rfl ?_
        refine r_imul (pc := 60) dX7_fits_60 ?_
        refine r_iload_n (pc := 61) dX7_fits_61 rfl ?_
        refine r_iadd (pc := 62) dX7_fits_62 ?_
        refine i_SN2ix (pc := 63) okX11_at staX11_at nwX7_71 dX7_fits_63 (by decide) (Nat.le_of_ble_eq_true rfl) (sX11_at (n := 15) (j := 3 * item + i)) ?_
        rw [hl]
        refine r_iload (pc := 66) dX7_fits_66 rfl ?_
        refine i_SN3ix (pc := 68) okX11_within staX11_within nwX7_115 dX7_fits_68 (by decide) (Nat.le_of_ble_eq_true rfl) (sX11_within) ?_
        refine t_iret (pc := 71) dX7_fits_71 rfl (nar_z (by split <;> simp)) ?_
        subst hq
        refine ⟨?_, rfl, rfl, rfl⟩
        have e : fitB item i (I r 6) (I (r + 2) 0) fam = decide (atT leastT (3 * item + i) ≤ I r 6 ∧ I r 6 ≤ (if atT mostT (3 * item + i) = -1 then fam - 1 else atT mostT (3 * item + i))) := by
          unfold fitB
          rw [if_neg (by omega)]
        rw [e]
        simp only [decide_eq_true_eq]
        first
          | rw [if_neg h16]
          | rw [if_pos h16]
      · skip
        refine r_aload_n (pc := 34) dX7_fits_34 rfl ?_
        refine r_getI (pc := 35) dX7_fits_35 frX7_79 (by assumption) ?_
        refine r_aload_n (pc := 38) dX7_fits_38 rfl ?_
        refine r_getA (pc := 39) dX7_fits_39 frX7_15 (by assumption) (by assumption) ?_
        refine r_iconst (pc := 42) dX7_fits_42 ?_
        refine i_SN2ix (pc := 43) okX11_at staX11_at nwX7_71 dX7_fits_43 (by decide) (Nat.le_of_ble_eq_true rfl) (sX11_at (n := 3) (j := 0)) ?_
        refine r_icmp_ne (pc := 46) 51 dX7_fits_46 (by decide) (by omega) (by omega) (fun h46 => ?_) (fun h46 => ?_)
        · skip
          refine r_aload_n (pc := 51) dX7_fits_51 rfl ?_
          refine r_getI (pc := 52) dX7_fits_52 frX7_79 (by assumption) ?_
          refine r_gets (pc := 55) (zs1 G) q507 dX7_fits_55 ?_
          refine r_iconst (pc := 58) dX7_fits_58 ?_
          refine r_iload_n (pc := 59) dX7_fits_59 rfl ?_
          refine r_imul (pc := 60) dX7_fits_60 ?_
          refine r_iload_n (pc := 61) dX7_fits_61 rfl ?_
          refine r_iadd (pc := 62) dX7_fits_62 ?_
          refine i_SN2ix (pc := 63) okX11_at staX11_at nwX7_71 dX7_fits_63 (by decide) (Nat.le_of_ble_eq_true rfl) (sX11_at (n := 15) (j := 3 * item + i)) ?_
          rw [hl]
          refine r_iload (pc := 66) dX7_fits_66 rfl ?_
          refine i_SN3ix (pc := 68) okX11_within staX11_within nwX7_115 dX7_fits_68 (by decide) (Nat.le_of_ble_eq_true rfl) (sX11_within) ?_
          refine t_iret (pc := 71) dX7_fits_71 rfl (nar_z (by split <;> simp)) ?_
          subst hq
          refine ⟨?_, rfl, rfl, rfl⟩
          have e : fitB item i (I r 6) (I (r + 2) 0) fam = decide (atT leastT (3 * item + i) ≤ I r 6 ∧ I r 6 ≤ (if atT mostT (3 * item + i) = -1 then fam - 1 else atT mostT (3 * item + i))) := by
            unfold fitB
            rw [if_neg (by omega)]
          rw [e]
          simp only [decide_eq_true_eq]
          first
            | rw [if_neg h16]
            | rw [if_pos h16]
        · skip
          refine r_iconst (pc := 49) dX7_fits_49 ?_
          refine t_iret (pc := 50) dX7_fits_50 rfl rfl ?_
          subst hq
          refine ⟨?_, rfl, rfl, rfl⟩
          have e : fitB item i (I r 6) (I (r + 2) 0) fam = false := by
            unfold fitB
            rw [if_pos (by omega)]
          rw [e]; rfl

