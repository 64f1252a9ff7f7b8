/-! the texts that the reader spells -/
section TX
variable {G : WG} {y : MethodName} {cc : ByteArray} {mL : Nat} {rt : Option FieldType} {rk : Nat} {Z : Nat × Nat} {Q : Post} {pc idx : Nat} {ls : List (Option Value)} {st : List Value} {C : CF} {I : MI} {P : MP} {L : ML}
theorem r_gets1 (hq : Cond.fieldLink y.cls idx "java/lang/String" "COMPACT_STRINGS" "Z" ∈ LW) (hd : decode cc pc = .ok (.getstatic idx, 3)) (k : Wd G y cc mL rt rk Z Q (pc + 3) ls (.int (zI 1) :: st) C I P L) : Wd G y cc mL rt rk Z Q pc ls st C I P L := r_gets (zs3 G) hq hd k
theorem r_strC0 {i b : Nat} (hi : i < 5) (hb : b = gS G i) (hq : Cond.fieldLink y.cls idx "java/lang/String" "coder" "B" ∈ LW) (hd : decode cc pc = .ok (.getfield idx, 3)) (k : Wd G y cc mL rt rk Z Q (pc + 3) ls (.int (zI 0) :: st) C I P L) : Wd G y cc mL rt rk Z Q pc ls (.ref b :: st) C I P L := r_strC hi hb hq hd k
end TX
def chS (i j : Nat) : Int := ((((sbyt[i]?).getD [])[j]?).getD 0).toInt
def TxtL (G : WG) (C : CF) (I : MI) : Prop := ∀ i n, slen[i]? = some n → C.1 (gV G i) = some (.inr (5, n)) ∧ ∀ j, j < n → I (gV G i) j = chS i j
theorem slen_in {i n : Nat} (h : slen[i]? = some n) : i < 5 ∧ n ≤ 6 := by
  match i, h with
  | 0, h => cases h; omega
  | 1, h => cases h; omega
  | 2, h => cases h; omega
  | 3, h => cases h; omega
  | 4, h => cases h; omega
  | i + 5, h => simp [slen] at h
theorem chS_in : ∀ i : Fin 5, ∀ j : Fin 6, 0 ≤ chS i.val j.val ∧ chS i.val j.val < 128 := by decide +kernel
theorem ch_tab : ∀ n : Fin 128, b_char (b_and (n.val : Int) 255) = (n.val : Int) := by decide +kernel
theorem ch_in : ∀ n : Fin 128, b_and (n.val : Int) 255 = (n.val : Int) := by decide +kernel
theorem nar_c : ∀ n : Fin 128, narrow .char (.int (zI (n.val : Int))) = .int (zI (n.val : Int)) := by decide +kernel
theorem sJ0_coder {G : WG} {C : CF} {I : MI} {P : MP} {L : ML} {i : Nat} (hi : i < 5 := by assumption) : SJ0_coder_7d493 G [.ref (gS G i)] C I P L (NI C (XI 0 I P L)) := by
  refine en_I (by decide +kernel) (Nat.le_of_ble_eq_true rfl) ?_
  change Wd _ _ _ _ _ _ _ _ 0 [some _] [] _ _ _ _
  refine r_gets1 (pc := 0) q455 dJ0_coder_7d493_0 ?_
  refine r_if_eq (pc := 3) 13 dJ0_coder_7d493_3 (by decide) (by omega) (fun h3 => ?_) (fun h3 => ?_)
  · exfalso; omega
  · skip
    refine r_aload_n (pc := 6) dJ0_coder_7d493_6 rfl ?_
    refine r_strC0 (pc := 7) (by assumption) rfl q1483 dJ0_coder_7d493_7 ?_
    refine r_goto (pc := 10) 14 dJ0_coder_7d493_10 (by decide) ?_
    refine t_iret (pc := 14) dJ0_coder_7d493_14 rfl rfl ?_
    exact ⟨rfl, rfl, rfl, rfl⟩
theorem sJ0_length {G : WG} {C : CF} {I : MI} {P : MP} {L : ML} {i n : Nat} (hT : TxtL G C I := by assumption) (hn : slen[i]? = some n := by assumption) : SJ0_length_8abf5 G [.ref (gS G i)] C I P L (NI C (XI n I P L)) := by
  have hK := (hT i n hn).1
  have hi := (slen_in hn).1
  have hn6 := (slen_in hn).2
  have hsh : b_shr (n : Int) 0 = (n : Int) := by
    have h := b_shrN (a := n) (k := 0) (by omega) (by omega)
    rw [Nat.pow_zero, Nat.div_one] at h
    exact h
  refine en_I (by decide +kernel) (Nat.le_of_ble_eq_true rfl) ?_
  change Wd _ _ _ _ _ _ _ _ 0 [some _] [] _ _ _ _
  refine r_aload_n (pc := 0) dJ0_length_8abf5_0 rfl ?_
  refine r_strV (pc := 1) (by assumption) rfl q1482 dJ0_length_8abf5_1 ?_
  refine r_alen (pc := 4) dJ0_length_8abf5_4 (by assumption) ?_
  refine r_aload_n (pc := 5) dJ0_length_8abf5_5 rfl ?_
  refine i_Str0ix (pc := 6) okJ0_coder_7d493 (by assumption) rfl inJ0_coder_7d493 selJ0_coder_7d493 q451 dJ0_length_8abf5_6 rfl (by decide) (Nat.le_of_ble_eq_true rfl) (sJ0_coder) ?_
  refine r_ishr (pc := 9) dJ0_length_8abf5_9 ?_
  rw [hsh]
  refine t_iret (pc := 10) dJ0_length_8abf5_10 rfl rfl ?_
  exact ⟨rfl, rfl, rfl, rfl⟩
theorem sJ0_isLatin1 {G : WG} {C : CF} {I : MI} {P : MP} {L : ML} {i : Nat} (hi : i < 5 := by assumption) : SJ0_isLatin1_aae02 G [.ref (gS G i)] C I P L (NI C (XI 1 I P L)) := by
  refine en_I (by decide +kernel) (Nat.le_of_ble_eq_true rfl) ?_
  change Wd _ _ _ _ _ _ _ _ 0 [some _] [] _ _ _ _
  refine r_gets1 (pc := 0) q455 dJ0_isLatin1_aae02_0 ?_
  refine r_if_eq (pc := 3) 17 dJ0_isLatin1_aae02_3 (by decide) (by omega) (fun h3 => ?_) (fun h3 => ?_)
  · exfalso; omega
  · skip
    refine r_aload_n (pc := 6) dJ0_isLatin1_aae02_6 rfl ?_
    refine r_strC0 (pc := 7) (by assumption) rfl q1483 dJ0_isLatin1_aae02_7 ?_
    refine r_if_ne (pc := 10) 17 dJ0_isLatin1_aae02_10 (by decide) (by omega) (fun h10 => ?_) (fun h10 => ?_)
    · exfalso; omega
    · skip
      refine r_iconst (pc := 13) dJ0_isLatin1_aae02_13 ?_
      refine r_goto (pc := 14) 18 dJ0_isLatin1_aae02_14 (by decide) ?_
      refine t_iret (pc := 18) dJ0_isLatin1_aae02_18 rfl rfl ?_
      exact ⟨rfl, rfl, rfl, rfl⟩
theorem sJ3_checkIndex {G : WG} {C : CF} {I : MI} {P : MP} {L : ML} {x n : Int} (r : Option Nat) (hx : 0 ≤ x ∧ x < n := by omega) (hn : n ≤ 1000000 := by omega) : SJ3_checkIndex_8e157 G [.int (zI x), .int (zI n), va_rf r] C I P L (NI C (XI x I P L)) := by
  cases r with
  | none =>
    change SJ3_checkIndex_8e157 G [.int (zI x), .int (zI n), .null] C I P L (NI C (XI x I P L))
    refine en_I (by decide +kernel) (Nat.le_of_ble_eq_true rfl) ?_
    change Wd _ _ _ _ _ _ _ _ 0 [some _, some _, some _] [] _ _ _ _
    refine r_iload_n (pc := 0) dJ3_checkIndex_8e157_0 rfl ?_
    refine r_if_lt (pc := 1) 9 dJ3_checkIndex_8e157_1 (by decide) (by omega) (fun h1 => ?_) (fun h1 => ?_)
    · exfalso; omega
    · skip
      refine r_iload_n (pc := 4) dJ3_checkIndex_8e157_4 rfl ?_
      refine r_iload_n (pc := 5) dJ3_checkIndex_8e157_5 rfl ?_
      refine r_icmp_lt (pc := 6) 16 dJ3_checkIndex_8e157_6 (by decide) (by omega) (by omega) (fun h6 => ?_) (fun h6 => ?_)
      · skip
        refine r_iload_n (pc := 16) dJ3_checkIndex_8e157_16 rfl ?_
        refine t_iret (pc := 17) dJ3_checkIndex_8e157_17 rfl rfl ?_
        exact ⟨rfl, rfl, rfl, rfl⟩
      · exfalso; omega
  | some r =>
    change SJ3_checkIndex_8e157 G [.int (zI x), .int (zI n), .ref r] C I P L (NI C (XI x I P L))
    refine en_I (by decide +kernel) (Nat.le_of_ble_eq_true rfl) ?_
    change Wd _ _ _ _ _ _ _ _ 0 [some _, some _, some _] [] _ _ _ _
    refine r_iload_n (pc := 0) dJ3_checkIndex_8e157_0 rfl ?_
    refine r_if_lt (pc := 1) 9 dJ3_checkIndex_8e157_1 (by decide) (by omega) (fun h1 => ?_) (fun h1 => ?_)
    · exfalso; omega
    · skip
      refine r_iload_n (pc := 4) dJ3_checkIndex_8e157_4 rfl ?_
      refine r_iload_n (pc := 5) dJ3_checkIndex_8e157_5 rfl ?_
      refine r_icmp_lt (pc := 6) 16 dJ3_checkIndex_8e157_6 (by decide) (by omega) (by omega) (fun h6 => ?_) (fun h6 => ?_)
      · skip
        refine r_iload_n (pc := 16) dJ3_checkIndex_8e157_16 rfl ?_
        refine t_iret (pc := 17) dJ3_checkIndex_8e157_17 rfl rfl ?_
        exact ⟨rfl, rfl, rfl, rfl⟩
      · exfalso; omega
theorem sJ0_checkIndex {G : WG} {C : CF} {I : MI} {P : MP} {L : ML} {x n : Int} (hx : 0 ≤ x ∧ x < n := by omega) (hn : n ≤ 1000000 := by omega) : SJ0_checkIndex_df160 G [.int (zI x), .int (zI n)] C I P L (NV C (XV I P L)) := by
  refine en_V (by decide +kernel) (Nat.le_of_ble_eq_true rfl) ?_
  change Wd _ _ _ _ _ _ _ _ 0 [some _, some _] [] _ _ _ _
  refine r_iload_n (pc := 0) dJ0_checkIndex_df160_0 rfl ?_
  refine r_iload_n (pc := 1) dJ0_checkIndex_df160_1 rfl ?_
  refine r_gets (pc := 2) (zs4 G) q471 dJ0_checkIndex_df160_2 ?_
  refine i_S3ix (pc := 5) okJ3_checkIndex_8e157 staJ3_checkIndex_8e157 q473 dJ0_checkIndex_df160_5 (by decide) (Nat.le_of_ble_eq_true rfl) (sJ3_checkIndex (gZ G)) ?_
  refine r_pop (pc := 8) dJ0_checkIndex_df160_8 rfl ?_
  refine t_vret (pc := 9) dJ0_checkIndex_df160_9 rfl ?_
  exact ⟨rfl, rfl, rfl⟩
theorem sJ1_charAt {G : WG} {C : CF} {I : MI} {P : MP} {L : ML} {i j n : Nat} {x : Int} (hT : TxtL G C I := by assumption) (hn : slen[i]? = some n := by assumption) (hx : x = (j : Int) := by first | rfl | omega) (hj : j < n := by omega) : SJ1_charAt_3b067 G [.ref (gV G i), .int (zI x)] C I P L (NI C (XI (chS i j) I P L)) := by
  subst hx
  have hK := (hT i n hn).1
  have hV := (hT i n hn).2 j hj
  have hi := (slen_in hn).1
  have hn6 := (slen_in hn).2
  have hc : 0 ≤ chS i j ∧ chS i j < 128 := chS_in ⟨i, hi⟩ ⟨j, by omega⟩
  have h1 := ch_tab ⟨(chS i j).toNat, by omega⟩
  simp only [show (((chS i j).toNat : Nat) : Int) = chS i j by omega] at h1
  refine en_I (by decide +kernel) (Nat.le_of_ble_eq_true rfl) ?_
  change Wd _ _ _ _ _ _ _ _ 0 [some _, some _] [] _ _ _ _
  refine r_iload_n (pc := 0) dJ1_charAt_3b067_0 rfl ?_
  refine r_aload_n (pc := 1) dJ1_charAt_3b067_1 rfl ?_
  refine r_alen (pc := 2) dJ1_charAt_3b067_2 (by assumption) ?_
  refine i_S2vx (pc := 3) okJ0_checkIndex_df160 staJ0_checkIndex_df160 q468 dJ1_charAt_3b067_3 (by decide) (Nat.le_of_ble_eq_true rfl) (sJ0_checkIndex) ?_
  refine r_aload_n (pc := 6) dJ1_charAt_3b067_6 rfl ?_
  refine r_iload_n (pc := 7) dJ1_charAt_3b067_7 rfl ?_
  refine r_bald (j := j) (pc := 8) dJ1_charAt_3b067_8 (by assumption) (by omega) (by omega) (by omega) ?_
  refine r_sipush (pc := 9) dJ1_charAt_3b067_9 (by decide) ?_
  refine r_iand (pc := 12) dJ1_charAt_3b067_12 ?_
  refine r_i2c (pc := 13) dJ1_charAt_3b067_13 ?_
  rw [hV, h1]
  refine t_iret (pc := 14) dJ1_charAt_3b067_14 rfl (by have h2 := nar_c ⟨(chS i j).toNat, by omega⟩; simp only [show (((chS i j).toNat : Nat) : Int) = chS i j by omega] at h2; exact h2) ?_
  exact ⟨rfl, rfl, rfl, rfl⟩
theorem sJ0_charAt {G : WG} {C : CF} {I : MI} {P : MP} {L : ML} {i j n : Nat} {x : Int} (hT : TxtL G C I := by assumption) (hn : slen[i]? = some n := by assumption) (hx : x = (j : Int) := by first | rfl | omega) (hj : j < n := by omega) : SJ0_charAt_5068e G [.ref (gS G i), .int (zI x)] C I P L (NI C (XI (chS i j) I P L)) := by
  have hi := (slen_in hn).1
  have hn6 := (slen_in hn).2
  have hc : 0 ≤ chS i j ∧ chS i j < 128 := chS_in ⟨i, hi⟩ ⟨j, by omega⟩
  refine en_I (by decide +kernel) (Nat.le_of_ble_eq_true rfl) ?_
  change Wd _ _ _ _ _ _ _ _ 0 [some _, some _] [] _ _ _ _
  refine r_aload_n (pc := 0) dJ0_charAt_5068e_0 rfl ?_
  refine i_Str0ix (pc := 1) okJ0_isLatin1_aae02 (by assumption) rfl inJ0_isLatin1_aae02 selJ0_isLatin1_aae02 q461 dJ0_charAt_5068e_1 rfl (by decide) (Nat.le_of_ble_eq_true rfl) (sJ0_isLatin1) ?_
  refine r_if_eq (pc := 4) 16 dJ0_charAt_5068e_4 (by decide) (by omega) (fun h4 => ?_) (fun h4 => ?_)
  · exfalso; omega
  · skip
    refine r_aload_n (pc := 7) dJ0_charAt_5068e_7 rfl ?_
    refine r_strV (pc := 8) (by assumption) rfl q1482 dJ0_charAt_5068e_8 ?_
    refine r_iload_n (pc := 11) dJ0_charAt_5068e_11 rfl ?_
    refine i_S2ix (pc := 12) okJ1_charAt_3b067 staJ1_charAt_3b067 q465 dJ0_charAt_5068e_12 (by decide) (Nat.le_of_ble_eq_true rfl) (sJ1_charAt (n := n) (j := j)) ?_
    refine t_iret (pc := 15) dJ0_charAt_5068e_15 rfl (by have h2 := nar_c ⟨(chS i j).toNat, by omega⟩; simp only [show (((chS i j).toNat : Nat) : Int) = chS i j by omega] at h2; exact h2) ?_
    exact ⟨rfl, rfl, rfl, rfl⟩

