/-! the reader's tokens -/
def ReadL (G : WG) (C : CF) (P : MP) (r : Nat) : Prop := gB G ≤ r ∧ C.1 r = some (.inl 7) ∧ C.1 (r + 1) = some (.inr (0, 150)) ∧ C.1 (r + 2) = some (.inr (0, 3)) ∧ P r 0 = some (r + 1) ∧ P r 1 = some (r + 2)
/-- the text: how long, and each byte's bounds -/
def ReadI (I : MI) (r n : Nat) : Prop := I r 2 = (n : Int) ∧ n ≤ 150 ∧ ∀ j, j < 150 → 0 ≤ I (r + 1) j ∧ I (r + 1) j ≤ 127
def isLet (c : Int) : Bool := decide (97 ≤ c ∧ c ≤ 122)
def isFig (c : Int) : Bool := decide (48 ≤ c ∧ c ≤ 57)
def skp (b : Nat → Int) : Nat → Nat → Nat
  | 0, p => p
  | d + 1, p => if b p = 32 then skp b d (p + 1) else p
def runB (q : Int → Bool) (b : Nat → Int) : Nat → Nat → Nat
  | 0, p => p
  | d + 1, p => if q (b p) = true then runB q b d (p + 1) else p
def numV (b : Nat → Int) (s : Nat) : Nat → Int
  | 0 => 0
  | k + 1 => 10 * numV b s k + b (s + k) - 48
theorem skp_in (b : Nat → Int) : ∀ d p, p ≤ skp b d p ∧ skp b d p ≤ p + d := by
  intro d
  induction d with
  | zero => intro p; simp [skp]
  | succ d ih => intro p; unfold skp; have := ih (p + 1); split <;> omega
theorem runB_in (q : Int → Bool) (b : Nat → Int) : ∀ d p, p ≤ runB q b d p ∧ runB q b d p ≤ p + d := by
  intro d
  induction d with
  | zero => intro p; simp [runB]
  | succ d ih => intro p; unfold runB; have := ih (p + 1); split <;> omega
/-- a token: where it starts, where it ends, its sort -/
def tok (b : Nat → Int) (n a : Nat) : Nat × Nat × Int :=
  if n ≤ skp b (n - a) a then (skp b (n - a) a, n, 0)
  else if b (skp b (n - a) a) = 59 then (skp b (n - a) a, skp b (n - a) a + 1, 1)
  else if isLet (b (skp b (n - a) a)) = true then (skp b (n - a) a, runB isLet b (n - (skp b (n - a) a + 1)) (skp b (n - a) a + 1), 2)
  else if isFig (b (skp b (n - a) a)) = true then (skp b (n - a) a, runB isFig b (n - skp b (n - a) a) (skp b (n - a) a), if runB isFig b (n - skp b (n - a) a) (skp b (n - a) a) - skp b (n - a) a ≤ 4 then 3 else 4)
  else (skp b (n - a) a, skp b (n - a) a + 1, 4)
theorem tok_in (b : Nat → Int) {n a : Nat} (h : a ≤ n) : a ≤ (tok b n a).1 ∧ (tok b n a).1 ≤ n ∧ (tok b n a).1 ≤ (tok b n a).2.1 ∧ (tok b n a).2.1 ≤ n ∧ 0 ≤ (tok b n a).2.2 ∧ (tok b n a).2.2 ≤ 4 ∧ ((tok b n a).2.2 ≠ 0 → (tok b n a).1 < (tok b n a).2.1) := by
  have h1 := skp_in b (n - a) a
  unfold tok
  split
  · exact ⟨by simp only []; omega, by simp only []; omega, by simp only []; omega, by simp only []; omega, by simp, by simp, by simp⟩
  split
  · exact ⟨by simp only []; omega, by simp only []; omega, by simp only []; omega, by simp only []; omega, by simp, by simp, by simp⟩
  split
  · have h2 := runB_in isLet b (n - (skp b (n - a) a + 1)) (skp b (n - a) a + 1)
    exact ⟨by simp only []; omega, by simp only []; omega, by simp only []; omega, by simp only []; omega, by simp, by simp, fun _ => by simp only []; omega⟩
  split
  · next hf =>
    have h2 : skp b (n - a) a < runB isFig b (n - skp b (n - a) a) (skp b (n - a) a) ∧ runB isFig b (n - skp b (n - a) a) (skp b (n - a) a) ≤ n := by
      obtain ⟨d, hd⟩ : ∃ d, n - skp b (n - a) a = d + 1 := ⟨n - skp b (n - a) a - 1, by omega⟩
      rw [hd]
      unfold runB
      rw [if_pos hf]
      have := runB_in isFig b d (skp b (n - a) a + 1)
      omega
    refine ⟨by simp only []; omega, by simp only []; omega, by simp only []; omega, by simp only []; omega, ?_, ?_, fun _ => by simp only []; omega⟩
    · simp only []; split <;> omega
    · simp only []; split <;> omega
  · exact ⟨by simp only []; omega, by simp only []; omega, by simp only []; omega, by simp only []; omega, by simp, by simp, by simp⟩
theorem sX7_isLetter {G : WG} {C : CF} {I : MI} {P : MP} {L : ML} {r j n : Nat} {x : Int} (hr : ReadL G C P r := by assumption) (hI : ReadI I r n := by assumption) (hx : x = (j : Int) := by first | rfl | omega) (hj : j < 150 := by omega) : SX7_isLetter G [.ref r, .int (zI x)] C I P L (NI C (XI (if isLet (I (r + 1) j) then 1 else 0) I P L)) := by
  subst hx
  obtain ⟨hB, hK, hK1, hK2, hP0, hP1⟩ := id hr
  have hb := hI.2.2 j hj
  refine en_I (by decide +kernel) (Nat.le_of_ble_eq_true rfl) ?_
  change Wd _ _ _ _ _ _ _ _ 0 [some _, some _] [] _ _ _ _
  refine r_aload_n (pc := 0) dX7_isLetter_0 rfl ?_
  refine r_getA (pc := 1) dX7_isLetter_1 frX7_9 (by assumption) (by assumption) ?_
  refine r_iload_n (pc := 4) dX7_isLetter_4 rfl ?_
  refine i_SN2ix (pc := 5) okX11_at staX11_at nwX7_71 dX7_isLetter_5 (by decide) (Nat.le_of_ble_eq_true rfl) (sX11_at (n := 150) (j := j)) ?_
  refine r_bipush (pc := 8) dX7_isLetter_8 (by decide) ?_
  refine r_bipush (pc := 10) dX7_isLetter_10 (by decide) ?_
  refine i_SN3ix (pc := 12) okX11_within staX11_within nwX7_115 dX7_isLetter_12 (by decide) (Nat.le_of_ble_eq_true rfl) (sX11_within) ?_
  refine t_iret (pc := 15) dX7_isLetter_15 rfl (nar_z (by split <;> simp)) ?_
  exact ⟨by simp only [isLet, decide_eq_true_eq], rfl, rfl, rfl⟩
theorem sX7_isFigure {G : WG} {C : CF} {I : MI} {P : MP} {L : ML} {r j n : Nat} {x : Int} (hr : ReadL G C P r := by assumption) (hI : ReadI I r n := by assumption) (hx : x = (j : Int) := by first | rfl | omega) (hj : j < 150 := by omega) : SX7_isFigure G [.ref r, .int (zI x)] C I P L (NI C (XI (if isFig (I (r + 1) j) then 1 else 0) I P L)) := by
  subst hx
  obtain ⟨hB, hK, hK1, hK2, hP0, hP1⟩ := id hr
  have hb := hI.2.2 j hj
  refine en_I (by decide +kernel) (Nat.le_of_ble_eq_true rfl) ?_
  change Wd _ _ _ _ _ _ _ _ 0 [some _, some _] [] _ _ _ _
  refine r_aload_n (pc := 0) dX7_isFigure_0 rfl ?_
  refine r_getA (pc := 1) dX7_isFigure_1 frX7_9 (by assumption) (by assumption) ?_
  refine r_iload_n (pc := 4) dX7_isFigure_4 rfl ?_
  refine i_SN2ix (pc := 5) okX11_at staX11_at nwX7_71 dX7_isFigure_5 (by decide) (Nat.le_of_ble_eq_true rfl) (sX11_at (n := 150) (j := j)) ?_
  refine r_bipush (pc := 8) dX7_isFigure_8 (by decide) ?_
  refine r_bipush (pc := 10) dX7_isFigure_10 (by decide) ?_
  refine i_SN3ix (pc := 12) okX11_within staX11_within nwX7_115 dX7_isFigure_12 (by decide) (Nat.le_of_ble_eq_true rfl) (sX11_within) ?_
  refine t_iret (pc := 15) dX7_isFigure_15 rfl (nar_z (by split <;> simp)) ?_
  exact ⟨by simp only [isFig, decide_eq_true_eq], rfl, rfl, rfl⟩
theorem sX7_add {G : WG} {C : CF} {I : MI} {P : MP} {L : ML} {r n : Nat} {x : Int} (hr : ReadL G C P r := by assumption) (hI : ReadI I r n := by assumption) (hn : n < 150 := by omega) : SX7_add G [.ref r, .int (zI x)] C I P L (NI C (XI ((n : Int) + 1) (u2 (u2 I (r + 1) n x) r 2 ((n : Int) + 1)) P L)) := by
  obtain ⟨hB, hK, hK1, hK2, hP0, hP1⟩ := id hr
  have h2 := hI.1
  have n1 : r ≠ r + 1 := by omega
  refine en_I (by decide +kernel) (Nat.le_of_ble_eq_true rfl) ?_
  change Wd _ _ _ _ _ _ _ _ 0 [some _, some _] [] _ _ _ _
  refine r_aload_n (pc := 0) dX7_add_0 rfl ?_
  refine r_getA (pc := 1) dX7_add_1 frX7_9 (by assumption) (by assumption) ?_
  refine r_aload_n (pc := 4) dX7_add_4 rfl ?_
  refine r_getI (pc := 5) dX7_add_5 frX7_18 (by assumption) ?_
  refine r_iload_n (pc := 8) dX7_add_8 rfl ?_
  refine i_SN3vx (pc := 9) okX11_put staX11_put nwX7_22 dX7_add_9 (by decide) (Nat.le_of_ble_eq_true rfl) (sX11_put (n := 150) (j := n)) ?_
  refine r_aload_n (pc := 12) dX7_add_12 rfl ?_
  refine r_dup (pc := 13) dX7_add_13 rfl ?_
  refine r_getI (pc := 14) dX7_add_14 frX7_18 (by assumption) ?_
  simp only [u2_a _ _ _ _ n1, h2]
  refine r_iconst (pc := 17) dX7_add_17 ?_
  refine r_iadd (pc := 18) dX7_add_18 ?_
  refine r_dup_x1 (pc := 19) dX7_add_19 rfl rfl ?_
  refine r_putI (pc := 20) dX7_add_20 fwX7_18 (by assumption) (by omega) ?_
  refine t_iret (pc := 23) dX7_add_23 rfl rfl ?_
  exact ⟨rfl, rfl, rfl, rfl⟩
/-- what a reader's step leaves -/
def QR (r : Nat) (s e v : Int) (I : MI) (so : Int) (P : MP) (L : ML) : MI → MP → ML → Prop := fun I1 P1 L1 => I1 r 2 = I r 2 ∧ I1 r 3 = s ∧ I1 r 4 = e ∧ I1 r 5 = so ∧ (so = 3 → I1 r 6 = v) ∧ (∀ x, x ≠ r → I1 x = I x) ∧ P = P1 ∧ L = L1
theorem sX7_advanceNumber {G : WG} {C : CF} {I : MI} {P : MP} {L : ML} {r n s : Nat} (hr : ReadL G C P r := by assumption) (hI : ReadI I r n := by assumption) (hs : I r 3 = (s : Int) := by assumption) (hsn : s ≤ n := by omega) : SX7_advanceNumber G [.ref r] C I P L (NV C (QR r s (runB isFig (I (r + 1)) (n - s) s) (numV (I (r + 1)) s (runB isFig (I (r + 1)) (n - s) s - s)) I (if runB isFig (I (r + 1)) (n - s) s - s ≤ 4 then 3 else 4) P L)) := by
  obtain ⟨hB, hK, hK1, hK2, hP0, hP1⟩ := id hr
  obtain ⟨h2, h150, hbb⟩ := id hI
  generalize hb : I (r + 1) = b at *
  generalize hE : runB isFig b (n - s) s = E at *
  generalize hq : QR r s E (numV b s (E - s)) I (if E - s ≤ 4 then 3 else 4) P L = q
  refine en_V (by decide +kernel) (Nat.le_of_ble_eq_true rfl) ?_
  change Wd _ _ _ _ _ _ _ _ 0 [some _, none] [] _ _ _ _
  have loop : ∀ (d p : Nat) (i : Int) (I1 : MI), p + d = n → s ≤ p → i = (p : Int) → I1 r 2 = (n : Int) → I1 r 3 = (s : Int) → I1 r 6 = numV b s (p - s) → (∀ x, x ≠ r → I1 x = I x) → runB isFig b (n - p) p = E → Wd G yX7_advanceNumber cX7_advanceNumber 2 none 2 (C.2.1 + 0, C.2.2 + 0) (NV C q) 10 [some (.ref r), some (.int (zI i))] [] C I1 P L := by
    intro d
    induction d using Nat.strongRecOn with
    | _ d ih =>
      intro p i I1 hd hsp hi e2 e3 e6 hO hR
      have eb : I1 (r + 1) = b := by rw [hO _ (by omega), hb]
      have hI1 : ReadI I1 r n := ⟨e2, h150, by rw [eb]; exact hbb⟩
      refine r_iload_n (pc := 10) dX7_advanceNumber_10 rfl ?_
      refine r_aload_n (pc := 11) dX7_advanceNumber_11 rfl ?_
      refine r_getI (pc := 12) dX7_advanceNumber_12 frX7_18 (by assumption) ?_
      refine r_icmp_ge (pc := 15) 55 dX7_advanceNumber_15 (by decide) (by first | omega | exact iR_b _) (by first | omega | exact iR_b _) (fun h15 => ?_) (fun h15 => ?_)
      · skip
        have hpn : p = n := by omega
        rw [hpn, Nat.sub_self, runB] at hR
        refine r_aload_n (pc := 55) dX7_advanceNumber_55 rfl ?_
        refine r_iload_n (pc := 56) dX7_advanceNumber_56 rfl ?_
        refine r_putI (pc := 57) dX7_advanceNumber_57 fwX7_32 (by assumption) (by first | omega | exact iR_b _) ?_
        refine r_aload_n (pc := 60) dX7_advanceNumber_60 rfl ?_
        refine r_iload_n (pc := 61) dX7_advanceNumber_61 rfl ?_
        refine r_aload_n (pc := 62) dX7_advanceNumber_62 rfl ?_
        refine r_getI (pc := 63) dX7_advanceNumber_63 frX7_45 (by assumption) ?_
        try simp only [u2_app, true_and, and_true, and_false, false_and, and_self, Nat.reduceEqDiff, ↓reduceIte]
        refine r_isub (pc := 66) dX7_advanceNumber_66 ?_
        refine r_iconst (pc := 67) dX7_advanceNumber_67 ?_
        have hEp : E = p := by
          first
          | omega
          | (have hf : isFig (b p) = false := by rw [← eb]; cases hz : isFig (I1 (r + 1) p) <;> simp_all
             rw [hf] at hR; simp only [Bool.false_eq_true, if_false] at hR; exact hR.symm)
        refine r_icmp_gt (pc := 68) 75 dX7_advanceNumber_68 (by decide) (by first | omega | exact iR_b _) (by first | omega | exact iR_b _) (fun h68 => ?_) (fun h68 => ?_)
        · skip
          refine r_iconst (pc := 75) dX7_advanceNumber_75 ?_
          refine r_putI (pc := 76) dX7_advanceNumber_76 fwX7_38 (by assumption) (by first | omega | exact iR_b _) ?_
          refine t_vret (pc := 79) dX7_advanceNumber_79 rfl ?_
          subst hq
          refine ⟨by simp only [u2_app, eq_self, true_and, Nat.reduceEqDiff, if_false]; rw [e2, h2], by simp only [u2_app, eq_self, true_and, Nat.reduceEqDiff, if_false]; exact e3, by simp only [u2_app, eq_self, true_and, Nat.reduceEqDiff, if_false, if_true]; omega, ?_, fun _ => ?_, fun x hx => ?_, rfl, rfl⟩
          · rw [u2_s]
            first
            | rw [if_pos (by omega)]
            | rw [if_neg (by omega)]
          · simp only [u2_app, eq_self, true_and, Nat.reduceEqDiff, if_false]; rw [hEp]; exact e6
          · funext k; rw [u2_a _ _ _ _ hx, u2_a _ _ _ _ hx]; exact congrFun (hO x hx) k
        · skip
          refine r_iconst (pc := 71) dX7_advanceNumber_71 ?_
          refine r_goto (pc := 72) 76 dX7_advanceNumber_72 (by decide) ?_
          refine r_putI (pc := 76) dX7_advanceNumber_76 fwX7_38 (by assumption) (by first | omega | exact iR_b _) ?_
          refine t_vret (pc := 79) dX7_advanceNumber_79 rfl ?_
          subst hq
          refine ⟨by simp only [u2_app, eq_self, true_and, Nat.reduceEqDiff, if_false]; rw [e2, h2], by simp only [u2_app, eq_self, true_and, Nat.reduceEqDiff, if_false]; exact e3, by simp only [u2_app, eq_self, true_and, Nat.reduceEqDiff, if_false, if_true]; omega, ?_, fun _ => ?_, fun x hx => ?_, rfl, rfl⟩
          · rw [u2_s]
            first
            | rw [if_pos (by omega)]
            | rw [if_neg (by omega)]
          · simp only [u2_app, eq_self, true_and, Nat.reduceEqDiff, if_false]; rw [hEp]; exact e6
          · funext k; rw [u2_a _ _ _ _ hx, u2_a _ _ _ _ hx]; exact congrFun (hO x hx) k
      · skip
        have hbp := hbb p (by omega)
        obtain ⟨d', hd'⟩ : ∃ d', n - p = d' + 1 := ⟨n - p - 1, by omega⟩
        rw [hd', runB] at hR
        refine r_aload_n (pc := 18) dX7_advanceNumber_18 rfl ?_
        refine r_iload_n (pc := 19) dX7_advanceNumber_19 rfl ?_
        refine i_V1ix (pc := 20) okX7_isFigure inX7_isFigure selX7_isFigure q426 dX7_advanceNumber_20 (by assumption) rfl (by decide) (Nat.le_of_ble_eq_true rfl) (sX7_isFigure (j := p) (n := n)) ?_
        refine r_if_eq (pc := 23) 55 dX7_advanceNumber_23 (by decide) (by first | omega | exact iR_b _) (fun h23 => ?_) (fun h23 => ?_)
        · skip
          refine r_aload_n (pc := 55) dX7_advanceNumber_55 rfl ?_
          refine r_iload_n (pc := 56) dX7_advanceNumber_56 rfl ?_
          refine r_putI (pc := 57) dX7_advanceNumber_57 fwX7_32 (by assumption) (by first | omega | exact iR_b _) ?_
          refine r_aload_n (pc := 60) dX7_advanceNumber_60 rfl ?_
          refine r_iload_n (pc := 61) dX7_advanceNumber_61 rfl ?_
          refine r_aload_n (pc := 62) dX7_advanceNumber_62 rfl ?_
          refine r_getI (pc := 63) dX7_advanceNumber_63 frX7_45 (by assumption) ?_
          try simp only [u2_app, true_and, and_true, and_false, false_and, and_self, Nat.reduceEqDiff, ↓reduceIte]
          refine r_isub (pc := 66) dX7_advanceNumber_66 ?_
          refine r_iconst (pc := 67) dX7_advanceNumber_67 ?_
          have hEp : E = p := by
            first
            | omega
            | (have hf : isFig (b p) = false := by rw [← eb]; cases hz : isFig (I1 (r + 1) p) <;> simp_all
               rw [hf] at hR; simp only [Bool.false_eq_true, if_false] at hR; exact hR.symm)
          refine r_icmp_gt (pc := 68) 75 dX7_advanceNumber_68 (by decide) (by first | omega | exact iR_b _) (by first | omega | exact iR_b _) (fun h68 => ?_) (fun h68 => ?_)
          · skip
            refine r_iconst (pc := 75) dX7_advanceNumber_75 ?_
            refine r_putI (pc := 76) dX7_advanceNumber_76 fwX7_38 (by assumption) (by first | omega | exact iR_b _) ?_
            refine t_vret (pc := 79) dX7_advanceNumber_79 rfl ?_
            subst hq
            refine ⟨by simp only [u2_app, eq_self, true_and, Nat.reduceEqDiff, if_false]; rw [e2, h2], by simp only [u2_app, eq_self, true_and, Nat.reduceEqDiff, if_false]; exact e3, by simp only [u2_app, eq_self, true_and, Nat.reduceEqDiff, if_false, if_true]; omega, ?_, fun _ => ?_, fun x hx => ?_, rfl, rfl⟩
            · rw [u2_s]
              first
              | rw [if_pos (by omega)]
              | rw [if_neg (by omega)]
            · simp only [u2_app, eq_self, true_and, Nat.reduceEqDiff, if_false]; rw [hEp]; exact e6
            · funext k; rw [u2_a _ _ _ _ hx, u2_a _ _ _ _ hx]; exact congrFun (hO x hx) k
          · skip
            refine r_iconst (pc := 71) dX7_advanceNumber_71 ?_
            refine r_goto (pc := 72) 76 dX7_advanceNumber_72 (by decide) ?_
            refine r_putI (pc := 76) dX7_advanceNumber_76 fwX7_38 (by assumption) (by first | omega | exact iR_b _) ?_
            refine t_vret (pc := 79) dX7_advanceNumber_79 rfl ?_
            subst hq
            refine ⟨by simp only [u2_app, eq_self, true_and, Nat.reduceEqDiff, if_false]; rw [e2, h2], by simp only [u2_app, eq_self, true_and, Nat.reduceEqDiff, if_false]; exact e3, by simp only [u2_app, eq_self, true_and, Nat.reduceEqDiff, if_false, if_true]; omega, ?_, fun _ => ?_, fun x hx => ?_, rfl, rfl⟩
            · rw [u2_s]
              first
              | rw [if_pos (by omega)]
              | rw [if_neg (by omega)]
            · simp only [u2_app, eq_self, true_and, Nat.reduceEqDiff, if_false]; rw [hEp]; exact e6
            · funext k; rw [u2_a _ _ _ _ hx, u2_a _ _ _ _ hx]; exact congrFun (hO x hx) k
        · skip
          refine r_aload_n (pc := 26) dX7_advanceNumber_26 rfl ?_
          refine r_bipush (pc := 27) dX7_advanceNumber_27 (by decide) ?_
          refine r_aload_n (pc := 29) dX7_advanceNumber_29 rfl ?_
          refine r_getI (pc := 30) dX7_advanceNumber_30 frX7_79 (by assumption) ?_
          refine r_imul (pc := 33) dX7_advanceNumber_33 ?_
          refine r_aload_n (pc := 34) dX7_advanceNumber_34 rfl ?_
          refine r_getA (pc := 35) dX7_advanceNumber_35 frX7_9 (by assumption) (by assumption) ?_
          refine r_iload_n (pc := 38) dX7_advanceNumber_38 rfl ?_
          refine i_SN2ix (pc := 39) okX11_at staX11_at nwX7_71 dX7_advanceNumber_39 (by decide) (Nat.le_of_ble_eq_true rfl) (sX11_at (n := 150) (j := p)) ?_
          refine r_iadd (pc := 42) dX7_advanceNumber_42 ?_
          refine r_bipush (pc := 43) dX7_advanceNumber_43 (by decide) ?_
          refine r_isub (pc := 45) dX7_advanceNumber_45 ?_
          rw [e6, eb]
          refine r_putI (pc := 46) dX7_advanceNumber_46 fwX7_79 (by assumption) (by first | omega | exact iR_b _) ?_
          refine r_iinc (pc := 49) dX7_advanceNumber_49 rfl ?_
          refine r_goto (pc := 52) 10 dX7_advanceNumber_52 (by decide) ?_
          have hf : isFig (b p) = true := by rw [← eb]; cases hz : isFig (I1 (r + 1) p) <;> simp_all
          rw [if_pos hf] at hR
          refine ih (d - 1) (by omega) (p + 1) _ _ (by omega) (by omega) (by omega) ?_ ?_ ?_ (fun x hx => ?_) ?_
          · rw [u2_k _ _ _ _ (by decide), e2]
          · rw [u2_k _ _ _ _ (by decide), e3]
          · rw [u2_s, show p + 1 - s = p - s + 1 by omega, numV, show s + (p - s) = p by omega]
          · funext k; rw [u2_a _ _ _ _ hx]; exact congrFun (hO x hx) k
          · rw [← hR, show n - (p + 1) = d' by omega]
  refine r_aload_n (pc := 0) dX7_advanceNumber_0 rfl ?_
  refine r_iconst (pc := 1) dX7_advanceNumber_1 ?_
  refine r_putI (pc := 2) dX7_advanceNumber_2 fwX7_79 (by assumption) (by omega) ?_
  refine r_aload_n (pc := 5) dX7_advanceNumber_5 rfl ?_
  refine r_getI (pc := 6) dX7_advanceNumber_6 frX7_45 (by assumption) ?_
  try simp only [u2_app, true_and, and_true, and_false, false_and, and_self, Nat.reduceEqDiff, ↓reduceIte]
  refine r_istore_n (pc := 9) dX7_advanceNumber_9 (by decide) ?_
  refine loop (n - s) s _ _ (by omega) (Nat.le_refl s) (by omega) ?_ ?_ ?_ (fun x hx => ?_) hE
  · rw [u2_k _ _ _ _ (by decide), h2]
  · rw [u2_k _ _ _ _ (by decide), hs]
  · rw [u2_s, Nat.sub_self]; rfl
  · funext k; rw [u2_a _ _ _ _ hx]

