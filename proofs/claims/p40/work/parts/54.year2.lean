/-! the fraction; the lots -/
theorem gcdR_in : ∀ d a b, 0 ≤ a ∧ a ≤ 1000000000 → 0 ≤ b ∧ b ≤ 1000000000 → 0 ≤ gcdR d a b ∧ gcdR d a b ≤ 1000000000 := by
  intro d
  induction d with
  | zero => intro a b ha _; exact ha
  | succ d ih =>
    intro a b ha hb
    unfold gcdR
    split
    · exact ha
    · next h =>
      have hm1 := Int.emod_nonneg a h
      have hm2 := Int.emod_lt_of_pos a (show 0 < b by omega)
      exact ih b (a % b) hb ⟨hm1, by omega⟩
def undR (s : Nat) : Nat → Nat → Int → Int
  | 0, _, _ => 0
  | m + 1, f, h => if s.testBit f = true then undR s m (f + 1) h else if h = 0 then (f : Int) else undR s m (f + 1) (h - 1)
theorem sX11_undrawn {G : WG} {C : CF} {I : MI} {P : MP} {L : ML} {s z : Nat} {x y p : Int} (hx : x = (s : Int) := by first | rfl | omega) (hs : s < 2147483648 := by omega) (hp : 0 ≤ p ∧ p ≤ 1000 := by omega) (hy : y = (z : Int) := by first | rfl | omega) (hz : z ≤ 6 := by omega) : SX11_undrawn G [.int (zI x), .int (zI p), .int (zI y)] C I P L (NI C (XI (undR s z 0 p) I P L)) := by
  subst hx hy
  generalize hq : XI (undR s z 0 p) I P L = q
  refine en_I (by decide +kernel) (Nat.le_of_ble_eq_true rfl) ?_
  change Wd _ _ _ _ _ _ _ _ 0 [some _, some _, some _, none, none] [] _ _ _ _
  have loop : ∀ (d f : Nat) (i h : Int), f + d = z → i = (f : Int) → -10 ≤ h ∧ h ≤ 1000 → 0 ≤ h → undR s d f h = undR s z 0 p → Wd G yX11_undrawn cX11_undrawn 5 (some .int) 0 (C.2.1 + 0, C.2.2 + 0) (NI C q) 5 [some (.int (zI (s : Int))), some (.int (zI p)), some (.int (zI (z : Int))), some (.int (zI h)), some (.int (zI i))] [] C I P L := by
    intro d
    induction d with
    | zero =>
      intro f i h hd hi hr h0 hg
      refine r_iload (pc := 5) dX11_undrawn_5 rfl ?_
      refine r_iload_n (pc := 7) dX11_undrawn_7 rfl ?_
      refine r_icmp_ge (pc := 8) 39 dX11_undrawn_8 (by decide) (by omega) (by omega) (fun h8 => ?_) (fun h8 => ?_)
      · skip
        refine r_iconst (pc := 39) dX11_undrawn_39 ?_
        refine t_iret (pc := 40) dX11_undrawn_40 rfl rfl ?_
        subst hq; exact ⟨by rw [← hg]; rfl, rfl, rfl, rfl⟩
      · exfalso; omega
    | succ d ih =>
      intro f i h hd hi hr h0 hg
      rw [undR] at hg
      have hbit : b_and (b_shr (s : Int) i) 1 = if s.testBit f then 1 else 0 := by rw [hi]; exact b_bit hs (by omega)
      refine r_iload (pc := 5) dX11_undrawn_5 rfl ?_
      refine r_iload_n (pc := 7) dX11_undrawn_7 rfl ?_
      refine r_icmp_ge (pc := 8) 39 dX11_undrawn_8 (by decide) (by first | omega | exact iR_b _) (by first | omega | exact iR_b _) (fun h8 => ?_) (fun h8 => ?_)
      · exfalso; omega
      · skip
        refine r_iload_n (pc := 11) dX11_undrawn_11 rfl ?_
        refine r_iload (pc := 12) dX11_undrawn_12 rfl ?_
        refine r_ishr (pc := 14) dX11_undrawn_14 ?_
        refine r_iconst (pc := 15) dX11_undrawn_15 ?_
        refine r_iand (pc := 16) dX11_undrawn_16 ?_
        rw [hbit]
        refine r_if_eq (pc := 17) 23 dX11_undrawn_17 (by decide) (by first | omega | exact iR_b _) (fun h17 => ?_) (fun h17 => ?_)
        · skip
          rw [if_neg (bf h17)] at hg
          refine r_iload_n (pc := 23) dX11_undrawn_23 rfl ?_
          refine r_if_ne (pc := 24) 30 dX11_undrawn_24 (by decide) (by first | omega | exact iR_b _) (fun h24 => ?_) (fun h24 => ?_)
          · skip
            rw [if_neg (by omega)] at hg
            refine r_iinc (pc := 30) dX11_undrawn_30 rfl ?_
            refine r_iinc (pc := 33) dX11_undrawn_33 rfl ?_
            refine r_goto (pc := 36) 5 dX11_undrawn_36 (by decide) ?_
            exact ih (f + 1) _ _ (by omega) (by omega) (by omega) (by omega) hg
          · skip
            rw [if_pos (by omega)] at hg
            refine r_iload (pc := 27) dX11_undrawn_27 rfl ?_
            refine t_iret (pc := 29) dX11_undrawn_29 rfl rfl ?_
            subst hq; exact ⟨by rw [← hg]; exact hi, rfl, rfl, rfl⟩
        · skip
          rw [if_pos (bt h17)] at hg
          refine r_goto (pc := 20) 33 dX11_undrawn_20 (by decide) ?_
          refine r_iinc (pc := 33) dX11_undrawn_33 rfl ?_
          refine r_goto (pc := 36) 5 dX11_undrawn_36 (by decide) ?_
          exact ih (f + 1) _ _ (by omega) (by omega) hr h0 hg
  refine r_iload_n (pc := 0) dX11_undrawn_0 rfl ?_
  refine r_istore_n (pc := 1) dX11_undrawn_1 (by decide) ?_
  refine r_iconst (pc := 2) dX11_undrawn_2 ?_
  refine r_istore (pc := 3) dX11_undrawn_3 (by decide) ?_
  exact loop z 0 _ _ (by omega) (by omega) (by omega) (by omega) rfl


