/-! the class's small functions -/
theorem sX11_within {G : WG} {C : CF} {I : MI} {P : MP} {L : ML} {n a b : Int} (hn : iR n := by omega) (ha : iR a := by omega) (hb : iR b := by omega) : SX11_within G [.int (zI n), .int (zI a), .int (zI b)] C I P L (NI C (XI (if a ≤ n ∧ n ≤ b then 1 else 0) I P L)) := by
  refine en_I (by decide +kernel) (Nat.le_of_ble_eq_true rfl) ?_
  change Wd _ _ _ _ _ _ _ _ 0 [some _, some _, some _] [] _ _ _ _
  refine r_iload_n (pc := 0) dX11_within_0 rfl ?_
  refine r_iload_n (pc := 1) dX11_within_1 rfl ?_
  refine r_icmp_lt (pc := 2) 14 dX11_within_2 (by decide) (by omega) (by omega) (fun h2 => ?_) (fun h2 => ?_)
  · skip
    refine r_iconst (pc := 14) dX11_within_14 ?_
    refine t_iret (pc := 15) dX11_within_15 rfl rfl ?_
    exact ⟨by first | rw [if_pos (by omega)] | rw [if_neg (by omega)], rfl, rfl, rfl⟩
  · skip
    refine r_iload_n (pc := 5) dX11_within_5 rfl ?_
    refine r_iload_n (pc := 6) dX11_within_6 rfl ?_
    refine r_icmp_gt (pc := 7) 14 dX11_within_7 (by decide) (by omega) (by omega) (fun h7 => ?_) (fun h7 => ?_)
    · skip
      refine r_iconst (pc := 14) dX11_within_14 ?_
      refine t_iret (pc := 15) dX11_within_15 rfl rfl ?_
      exact ⟨by first | rw [if_pos (by omega)] | rw [if_neg (by omega)], rfl, rfl, rfl⟩
    · skip
      refine r_iconst (pc := 10) dX11_within_10 ?_
      refine r_goto (pc := 11) 15 dX11_within_11 (by decide) ?_
      refine t_iret (pc := 15) dX11_within_15 rfl rfl ?_
      exact ⟨by first | rw [if_pos (by omega)] | rw [if_neg (by omega)], rfl, rfl, rfl⟩
theorem sX11_leftOver {G : WG} {C : CF} {I : MI} {P : MP} {L : ML} {n a : Int} (hn : iR n := by omega) (hn0 : 0 ≤ n := by omega) (ha : iR a := by omega) (ha0 : 0 < a := by omega) : SX11_leftOver G [.int (zI n), .int (zI a)] C I P L (NI C (XI (n % a) I P L)) := by
  refine en_I (by decide +kernel) (Nat.le_of_ble_eq_true rfl) ?_
  change Wd _ _ _ _ _ _ _ _ 0 [some _, some _] [] _ _ _ _
  refine r_iload_n (pc := 0) dX11_leftOver_0 rfl ?_
  refine r_if_le (pc := 1) 10 dX11_leftOver_1 (by decide) (by omega) (fun h1 => ?_) (fun h1 => ?_)
  · skip
    refine r_iconst (pc := 10) dX11_leftOver_10 ?_
    refine t_iret (pc := 11) dX11_leftOver_11 rfl rfl ?_
    first | exact ⟨rfl, rfl, rfl, rfl⟩ | omega
  · skip
    refine r_iload_n (pc := 4) dX11_leftOver_4 rfl ?_
    refine r_iload_n (pc := 5) dX11_leftOver_5 rfl ?_
    refine r_irem (pc := 6) dX11_leftOver_6 (by omega) (by omega) (by omega) (by omega) ?_
    refine r_goto (pc := 7) 11 dX11_leftOver_7 (by decide) ?_
    refine t_iret (pc := 11) dX11_leftOver_11 rfl rfl ?_
    first | exact ⟨rfl, rfl, rfl, rfl⟩ | omega
def cut (n : Int) : Int := if n < 0 then 0 else if 9999 < n then 9999 else n
theorem sX11_stored {G : WG} {C : CF} {I : MI} {P : MP} {L : ML} {n : Int} (hn : iR n := by omega) : SX11_stored G [.int (zI n)] C I P L (NI C (XI (cut n) I P L)) := by
  refine en_I (by decide +kernel) (Nat.le_of_ble_eq_true rfl) ?_
  change Wd _ _ _ _ _ _ _ _ 0 [some _] [] _ _ _ _
  refine r_iconst (pc := 0) dX11_stored_0 ?_
  refine r_sipush (pc := 1) dX11_stored_1 (by decide) ?_
  refine r_iload_n (pc := 4) dX11_stored_4 rfl ?_
  refine r_min (pc := 5) q395 stamthmin inimth codmthmin (by decide) (Nat.le_of_ble_eq_true rfl) dX11_stored_5 (by omega) (by omega) ?_
  refine r_max (pc := 8) q396 stamthmax inimth codmthmax (by decide) (Nat.le_of_ble_eq_true rfl) dX11_stored_8 (by omega) (by omega) ?_
  refine t_iret (pc := 11) dX11_stored_11 rfl rfl ?_
  exact ⟨by unfold cut; omega, rfl, rfl, rfl⟩
theorem sX11_at {G : WG} {C : CF} {I : MI} {P : MP} {L : ML} {a n j : Nat} {x : Int} (hK : C.1 a = some (.inr (0, n)) := by assumption) (hn : n ≤ 1000000 := by omega) (hx : x = (j : Int) := by first | rfl | omega) (hj : j < n := by omega) : SX11_at G [.ref a, .int (zI x)] C I P L (NI C (XI (I a j) I P L)) := by
  subst hx
  refine en_I (by decide +kernel) (Nat.le_of_ble_eq_true rfl) ?_
  change Wd _ _ _ _ _ _ _ _ 0 [some _, some _] [] _ _ _ _
  refine r_iload_n (pc := 0) dX11_at_0 rfl ?_
  refine r_if_lt (pc := 1) 16 dX11_at_1 (by decide) (by omega) (fun h1 => ?_) (fun h1 => ?_)
  · skip
    refine r_iconst (pc := 16) dX11_at_16 ?_
    refine t_iret (pc := 17) dX11_at_17 rfl rfl ?_
    first | exact ⟨rfl, rfl, rfl, rfl⟩ | omega
  · skip
    refine r_iload_n (pc := 4) dX11_at_4 rfl ?_
    refine r_aload_n (pc := 5) dX11_at_5 rfl ?_
    refine r_alen (pc := 6) dX11_at_6 (by assumption) ?_
    refine r_icmp_ge (pc := 7) 16 dX11_at_7 (by decide) (by omega) (by omega) (fun h7 => ?_) (fun h7 => ?_)
    · skip
      refine r_iconst (pc := 16) dX11_at_16 ?_
      refine t_iret (pc := 17) dX11_at_17 rfl rfl ?_
      first | exact ⟨rfl, rfl, rfl, rfl⟩ | omega
    · skip
      refine r_aload_n (pc := 10) dX11_at_10 rfl ?_
      refine r_iload_n (pc := 11) dX11_at_11 rfl ?_
      refine r_iald (pc := 12) dX11_at_12 (by assumption) rfl (by omega) (by omega) ?_
      refine r_goto (pc := 13) 17 dX11_at_13 (by decide) ?_
      refine t_iret (pc := 17) dX11_at_17 rfl rfl ?_
      first | exact ⟨rfl, rfl, rfl, rfl⟩ | omega
theorem sX11_put {G : WG} {C : CF} {I : MI} {P : MP} {L : ML} {a n j : Nat} {x z : Int} (hK : C.1 a = some (.inr (0, n)) := by assumption) (hB : gB G ≤ a := by omega) (hn : n ≤ 1000000 := by omega) (hx : x = (j : Int) := by first | rfl | omega) (hj : j < n := by omega) : SX11_put G [.ref a, .int (zI x), .int (zI z)] C I P L (NV C (XV (u2 I a j z) P L)) := by
  subst hx
  refine en_V (by decide +kernel) (Nat.le_of_ble_eq_true rfl) ?_
  change Wd _ _ _ _ _ _ _ _ 0 [some _, some _, some _] [] _ _ _ _
  refine r_iload_n (pc := 0) dX11_put_0 rfl ?_
  refine r_if_lt (pc := 1) 14 dX11_put_1 (by decide) (by omega) (fun h1 => ?_) (fun h1 => ?_)
  · skip
    refine t_vret (pc := 14) dX11_put_14 rfl ?_
    first | exact ⟨rfl, rfl, rfl⟩ | omega
  · skip
    refine r_iload_n (pc := 4) dX11_put_4 rfl ?_
    refine r_aload_n (pc := 5) dX11_put_5 rfl ?_
    refine r_alen (pc := 6) dX11_put_6 (by assumption) ?_
    refine r_icmp_ge (pc := 7) 14 dX11_put_7 (by decide) (by omega) (by omega) (fun h7 => ?_) (fun h7 => ?_)
    · skip
      refine t_vret (pc := 14) dX11_put_14 rfl ?_
      first | exact ⟨rfl, rfl, rfl⟩ | omega
    · skip
      refine r_aload_n (pc := 10) dX11_put_10 rfl ?_
      refine r_iload_n (pc := 11) dX11_put_11 rfl ?_
      refine r_iload_n (pc := 12) dX11_put_12 rfl ?_
      refine r_iast (pc := 13) dX11_put_13 (by assumption) (by omega) rfl (by omega) (by omega) ?_
      refine t_vret (pc := 14) dX11_put_14 rfl ?_
      first | exact ⟨rfl, rfl, rfl⟩ | omega


