/-! class and reference, state against state; the plain calls -/
def XZ (X : Nat → Int) (S : LSt) (Y : Int) : Prop := XL X S ∧ ZX X Y
def IMr (a b : LSt) (k : Int) (K J : Nat → Int) (Y : Int) : Prop := (0 ≤ k ∧ k ≤ 3) ∧ ∀ i : Nat, i < 2 → (J i = 0 ∨ J i = 1) ∧ b_and (b_shr k (i : Int)) 1 = J i ∧ (J i = 1 → XZ (fun x => K (236 * i + x)) (if i = 0 then a else b) Y)
def YR (S : YS) (T : RS) (Y : Int) : Prop := XZ T.1 S.1 Y ∧ IMr S.2.1 S.2.2.1 S.2.2.2.2.2.1 T.2.1 T.2.2.1 Y ∧ (T.2.2.2.1 0 = S.2.2.2.2.2.2.1 ∧ T.2.2.2.1 1 = S.2.2.2.2.2.2.2.1 ∧ T.2.2.2.1 2 = S.2.2.2.2.2.2.2.2.1) ∧ T.2.2.2.2.1 = S.2.2.2.1 ∧ T.2.2.2.2.2.1 = S.2.2.2.2.1 ∧ T.2.2.2.2.2.2.1 = S.2.2.2.2.2.2.2.2.2.1 ∧ T.2.2.2.2.2.2.2 = S.2.2.2.2.2.2.2.2.2.2
/-- what is known of the class's state -/
def SI (S : YS) (Y : Int) : Prop := LI S.1 Y ∧ LI S.2.1 Y ∧ LI S.2.2.1 Y ∧ UI S.1 ∧ UI S.2.1 ∧ UI S.2.2.1 ∧ (0 ≤ S.2.2.2.2.1 ∧ S.2.2.2.2.1 ≤ 150)
/-- the two answers are one, and what is left is bound -/
def RR (a : Int × YS) (b : Int × RS) (Y : Int) : Prop := a.1 = b.1 ∧ YR a.2 b.2 Y
theorem IMr_le {a b : LSt} {k : Int} {K J : Nat → Int} {Y Y' : Int} (h : IMr a b k K J Y) (hY : Y ≤ Y') : IMr a b k K J Y' := ⟨h.1, fun i hi => ⟨(h.2 i hi).1, (h.2 i hi).2.1, fun hj => ⟨((h.2 i hi).2.2 hj).1, ZX_le ((h.2 i hi).2.2 hj).2 hY⟩⟩⟩
theorem YR_le {S : YS} {T : RS} {Y Y' : Int} (h : YR S T Y) (hY : Y ≤ Y') : YR S T Y' := ⟨⟨h.1.1, ZX_le h.1.2 hY⟩, IMr_le h.2.1 hY, h.2.2⟩
theorem YR_bad {S : YS} {T : RS} {Y : Int} (h : YR S T Y) : YR (yB S) (zB T) Y := by
  obtain ⟨h1, h2, ⟨h3, h4, h5⟩, h6⟩ := h
  exact ⟨h1, h2, ⟨(by show up T.2.2.2.1 0 (T.2.2.2.1 0 + 1) 0 = S.2.2.2.2.2.2.1 + 1; rw [up_s, h3]), (by show up T.2.2.2.1 0 (T.2.2.2.1 0 + 1) 1 = S.2.2.2.2.2.2.2.1; rw [up_n _ _ (by decide), h4]), (by show up T.2.2.2.1 0 (T.2.2.2.1 0 + 1) 2 = S.2.2.2.2.2.2.2.2.1; rw [up_n _ _ (by decide), h5])⟩, h6⟩
theorem YR_no {S : YS} {T : RS} {Y : Int} (h : YR S T Y) : YR (yN S) (zO T) Y := by
  obtain ⟨h1, h2, ⟨h3, h4, h5⟩, h6⟩ := h
  exact ⟨h1, h2, ⟨(by show up T.2.2.2.1 1 (T.2.2.2.1 1 + 1) 0 = S.2.2.2.2.2.2.1; rw [up_n _ _ (by decide), h3]), (by show up T.2.2.2.1 1 (T.2.2.2.1 1 + 1) 1 = S.2.2.2.2.2.2.2.1 + 1; rw [up_s, h4]), (by show up T.2.2.2.1 1 (T.2.2.2.1 1 + 1) 2 = S.2.2.2.2.2.2.2.2.1; rw [up_n _ _ (by decide), h5])⟩, h6⟩
theorem YR_full {S : YS} {T : RS} {Y : Int} (h : YR S T Y) : YR (yF S) (zF T) Y := by
  obtain ⟨h1, h2, ⟨h3, h4, h5⟩, h6⟩ := h
  exact ⟨h1, h2, ⟨(by show up T.2.2.2.1 2 (T.2.2.2.1 2 + 1) 0 = S.2.2.2.2.2.2.1; rw [up_n _ _ (by decide), h3]), (by show up T.2.2.2.1 2 (T.2.2.2.1 2 + 1) 1 = S.2.2.2.2.2.2.2.1; rw [up_n _ _ (by decide), h4]), (by show up T.2.2.2.1 2 (T.2.2.2.1 2 + 1) 2 = S.2.2.2.2.2.2.2.2.1 + 1; rw [up_s, h5])⟩, h6⟩
theorem YR_lump {S : YS} {T : RS} {Y Y' : Int} {N : Nat → Int} {l : LSt} (h : YR S T Y) (hz : XZ N l Y') (hY : Y ≤ Y') : YR (yLu S l) (zN T N) Y' := ⟨hz, IMr_le h.2.1 hY, h.2.2⟩
theorem XZ_upd {X X' F' B' : Nat → Int} {S : LSt} {Y : Int} (h : XZ X S Y) (hE : XE X' F' B') (hF : FI X' Y) (hB : BI X') (h115 : X' 115 = X 115) (hhi : ∀ k, 116 ≤ k → X' k = X k) : XZ X' (F', B', S.2.2) Y := ⟨XL_upd h.1 hE h115 hhi, ZX_upd h.2 hF (by omega) hB h115 hhi⟩
theorem DE_le {F F' B : Nat → Int} (h : DE F B) (h6 : F 6 ≤ F' 6) : DE F' B := ⟨fun d hd => ⟨Int.lt_of_lt_of_le (h.1 d hd).1 h6, Int.lt_of_lt_of_le (h.1 d hd).2 h6⟩, fun r hr => Int.lt_of_lt_of_le (h.2 r hr) h6⟩
section RELS
variable {S : YS} {T : RS} {Y : Int}
theorem YR_bi (hS : SI S Y) : BI S.1.2.1 := hS.1.2.1
theorem YR_sz (hS : SI S Y) : sizeF S.1.1 ≤ 6 := (sizeF_le hS.1.1).1
theorem YR_lo (h : YR S T Y) (hS : SI S Y) {k : Nat} (hk : k < 7 ∨ k = 31 ∨ k = 32) : T.1 k = S.1.1 k := XE_lo h.1.1.1 hk (YR_sz hS)
theorem YR_lv (h : YR S T Y) (hS : SI S Y) {k : Nat} (hk : k < 7 + 4 * sizeF S.1.1 ∨ k = 31 ∨ k = 32) : T.1 k = S.1.1 k := trF_lv h.1.1.1.1 hk (YR_sz hS)
theorem rel_year (h : YR S T Y) (hS : SI S Y) (hY : 0 ≤ Y) (y : Int) : RR (yearS S y) (yearM T y) Y := by
  unfold yearS yearM
  by_cases hc : 2 ≤ y ∧ y ≤ 70
  · rw [if_pos hc, if_pos hc]
    exact ⟨(YR_lo h hS (by decide)).symm, YR_lump h ⟨XL_beg, ZX_beg _ hY hc⟩ (by omega)⟩
  · rw [if_neg hc, if_neg hc]
    exact ⟨rfl, YR_bad h⟩
theorem rel_store (h : YR S T Y) (hS : SI S Y) (w n : Int) : RR (storeS S w n) (storeM T w n) Y := by
  unfold storeS storeM
  by_cases hc : (0 ≤ w ∧ w ≤ 3) ∧ (0 ≤ n ∧ n ≤ 9999)
  · rw [if_pos hc, if_pos hc]
    have hk : 2 + w.toNat < 6 := by omega
    refine ⟨(YR_lo h hS (by omega)).symm, YR_lump h (XZ_upd h.1 ⟨?_, BE_up h.1.1.1.2.1 _ _ (by omega), ?_⟩ (FI_st h.1.2.1 (by omega) hc.2.1 hc.2.2) (BI_k h.1.2.2.1 (fun k h1 h2 => up_n _ _ (by omega))) (up_n _ _ (by omega)) (fun k hk => up_n _ _ (by omega))) (by omega)⟩
    · rw [trF_up _ _ (by omega), trF_up _ _ (by omega), h.1.1.1.1]
    · have h6 : up S.1.1 (2 + w.toNat) n 6 = S.1.1 6 := up_n _ _ (by omega)
      exact ⟨fun d hd => by rw [h6]; exact h.1.1.1.2.2.1 d hd, fun r hr => by rw [h6]; exact h.1.1.1.2.2.2 r hr⟩
  · rw [if_neg hc, if_neg hc]
    exact ⟨rfl, YR_bad h⟩
theorem rel_family (h : YR S T Y) (hS : SI S Y) (k m y : Int) : RR (familyS S k m y) (familyM T k m y) Y := by
  unfold familyS familyM
  have h6 := YR_lo h hS (k := 6) (by decide)
  by_cases hc : ((0 ≤ k ∧ k ≤ 4) ∧ (1 ≤ m ∧ m ≤ 20)) ∧ (0 ≤ y ∧ y ≤ 9)
  · rw [if_pos hc, if_pos hc, h6]
    by_cases hf : S.1.1 6 < 6
    · rw [if_pos hf, if_pos hf]
      have hb := hS.1.1.2.2.2.2.2.2.1
      have hsz : sizeF T.1 = sizeF S.1.1 := by unfold sizeF; rw [h6]
      have hn : sizeF S.1.1 < 6 := by have := (sizeF_le hS.1.1).2; omega
      have hhi : ∀ k', 33 ≤ k' → setlF T.1 (sizeF T.1) k m y k' = T.1 k' := fun k' hk' => by
        unfold setlF
        rw [hsz, up_n _ _ (by omega), up_n _ _ (by omega), up_n _ _ (by omega), up_n _ _ (by omega), up_n _ _ (by omega)]
      refine ⟨rfl, YR_lump h (XZ_upd h.1 ⟨?_, BE_hi h.1.1.1.2.1 (fun k' h1 h2 => hhi k' h1) (YR_bi hS).2.1.2 (YR_bi hS).2.2.1.2 (YR_bi hS).2.2.2.1.2, ?_⟩ (FI_setl h.1.2.1 (by omega) hc.1.1 hc.1.2 hc.2) (BI_k h.1.2.2.1 (fun k' h1 h2 => hhi k' h1)) (hhi _ (by decide)) (fun k' hk => hhi k' (by omega))) (by omega)⟩
      · rw [trF_setl T.1 _ _ _ ⟨by omega, by omega⟩, trF_setl S.1.1 _ _ _ ⟨by omega, by omega⟩, h.1.1.1.1, hsz]
      · have g6 : setlF S.1.1 (sizeF S.1.1) k m y 6 = S.1.1 6 + 1 := by
          unfold setlF
          rw [up_n _ _ (by omega), up_n _ _ (by omega), up_n _ _ (by omega), up_n _ _ (by omega), up_s]
        exact DE_le h.1.1.1.2.2 (by rw [g6]; omega)
    · rw [if_neg hf, if_neg hf]
      exact ⟨rfl, YR_full h⟩
  · rw [if_neg hc, if_neg hc]
    exact ⟨rfl, YR_bad h⟩
theorem trF_upj (F : Nat → Int) {k : Nat} (v : Int) (h6 : k ≠ 6) (h : k < 7 + 4 * sizeF F) (hs : sizeF F ≤ 6) : trF (up F k v) = up (trF F) k v := by
  have e : sizeF (up F k v) = sizeF F := by unfold sizeF; rw [up_n _ _ (Ne.symm h6)]
  unfold trF
  rw [e]
  exact tr_up F v (by omega)
theorem rel_job (h : YR S T Y) (hS : SI S Y) (f j : Int) : RR (jobS S f j) (jobM T f j) Y := by
  unfold jobS jobM
  rw [YR_lo h hS (k := 6) (by decide)]
  by_cases hc : (0 ≤ f ∧ f ≤ S.1.1 6 - 1) ∧ (0 ≤ j ∧ j ≤ 4)
  · rw [if_pos hc, if_pos hc]
    have hsz := (sizeF_le hS.1.1).2
    have hs6 := YR_sz hS
    have hsT : sizeF T.1 = sizeF S.1.1 := XE_sz h.1.1.1
    have hk : 10 + 4 * f.toNat < 7 + 4 * sizeF S.1.1 := by omega
    refine ⟨(YR_lv h hS (Or.inl hk)).symm, YR_lump h (XZ_upd h.1 ⟨?_, BE_up h.1.1.1.2.1 _ _ (by omega), ?_⟩ (FI_job h.1.2.1 hc.2.1 hc.2.2) (BI_k h.1.2.2.1 (fun k h1 h2 => up_n _ _ (by omega))) (up_n _ _ (by omega)) (fun k hk => up_n _ _ (by omega))) (by omega)⟩
    · rw [trF_upj T.1 _ (by omega) (by omega) (by omega), trF_upj S.1.1 _ (by omega) hk hs6, h.1.1.1.1]
    · have h6 : up S.1.1 (10 + 4 * f.toNat) j 6 = S.1.1 6 := up_n _ _ (by omega)
      exact ⟨fun d hd => by rw [h6]; exact h.1.1.1.2.2.1 d hd, fun r hr => by rw [h6]; exact h.1.1.1.2.2.2 r hr⟩
  · rw [if_neg hc, if_neg hc]
    exact ⟨rfl, YR_bad h⟩
theorem rel_rate (h : YR S T Y) (hS : SI S Y) (r : Int) : RR (rateS S r) (rateM T r) Y := by
  unfold rateS rateM
  by_cases hc : 0 ≤ r ∧ r ≤ 50
  · rw [if_pos hc, if_pos hc]
    have hb := YR_bi hS
    have h33 := hb.2.1; have h59 := hb.2.2.1
    refine ⟨h.1.1.1.2.1.2.1.symm, YR_lump h (XZ_upd h.1 ⟨?_, BE_set h.1.1.1.2.1 _ _ (by decide) (by decide) (by decide), ?_⟩ (FI_hi h.1.2.1 (by decide)) (BI_rate h.1.2.2.1 hc) (up_n _ _ (by decide)) (fun k hk => up_n _ _ (by omega))) (by omega)⟩
    · rw [trF_hi _ _ (by decide)]; exact h.1.1.1.1
    · obtain ⟨d1, d2⟩ := h.1.1.1.2.2
      refine ⟨fun d hd => ?_, fun q hq => ?_⟩
      · rw [up_n _ _ (by decide)] at hd
        rw [up_n _ _ (by omega), up_n _ _ (by omega)]; exact d1 d hd
      · rw [up_n _ _ (by decide)] at hq
        rw [up_n _ _ (by omega)]; exact d2 q hq
  · rw [if_neg hc, if_neg hc]
    exact ⟨rfl, YR_bad h⟩
theorem trF_debtB (X : Nat → Int) (n : Nat) (x y z : Int) : trF (debtB X n x y z) = trF X := by
  unfold debtB
  rw [trF_hi _ _ (by decide), trF_hi _ _ (by omega), trF_hi _ _ (by omega), trF_hi _ _ (by omega)]
theorem trF_repoB (X : Nat → Int) (n : Nat) (x y z : Int) : trF (repoB X n x y z) = trF X := by
  unfold repoB
  rw [trF_hi _ _ (by decide), trF_hi _ _ (by omega), trF_hi _ _ (by omega), trF_hi _ _ (by omega)]
theorem rel_debt (h : YR S T Y) (hS : SI S Y) (f t n : Int) : RR (debtS S f t n) (debtM T f t n) Y := by
  unfold debtS debtM
  have hb := YR_bi hS
  have h33 := hb.2.1; have h59 := hb.2.2.1; have h90 := hb.2.2.2.1
  have e33 := h.1.1.1.2.1.1
  have h6 := hS.1.1.2.2.2.2.2.2.1
  rw [YR_lo h hS (k := 6) (by decide)]
  by_cases hc : ((0 ≤ f ∧ f ≤ S.1.1 6 - 1) ∧ (0 ≤ t ∧ t ≤ S.1.1 6 - 1) ∧ f ≠ t) ∧ (1 ≤ n ∧ n ≤ 999)
  · rw [if_pos hc, if_pos hc, e33]
    by_cases hf : S.1.2.1 33 < 8
    · rw [if_pos hf, if_pos hf, ← e33]
      have hd : (T.1 33).toNat < 8 := by omega
      refine ⟨rfl, YR_lump h (XZ_upd h.1 ⟨?_, ?_, ?_⟩ ?_ (BI_debt h.1.2.2.1 hd (by omega) (by omega) (by omega)) ?_ (fun k hk => ?_)) (by omega)⟩
      · rw [trF_debtB]; exact h.1.1.1.1
      · have := BE_debt h.1.1.1.2.1 f t n (by omega) (by omega) (by omega)
        rw [e33] at this ⊢; exact this
      · rw [e33]; exact DE_debt h.1.1.1.2.2 f t n (by omega) (by omega) (by omega) (by omega)
      · exact FI_hi (FI_hi (FI_hi (FI_hi h.1.2.1 (by omega)) (by omega)) (by omega)) (by omega)
      · unfold debtB; rw [up_n _ _ (by decide), up_n _ _ (by omega), up_n _ _ (by omega), up_n _ _ (by omega)]
      · unfold debtB; rw [up_n _ _ (by omega), up_n _ _ (by omega), up_n _ _ (by omega), up_n _ _ (by omega)]
    · rw [if_neg hf, if_neg hf]
      exact ⟨rfl, YR_full h⟩
  · rw [if_neg hc, if_neg hc]
    exact ⟨rfl, YR_bad h⟩
theorem DE_repo {F B : Nat → Int} (h : DE F B) (x y z : Int) (hB : 0 ≤ B 59 ∧ B 59 < 10) (h33 : B 33 ≤ 8) (hy : y < F 6) : DE F (repoB B (B 59).toNat x y z) := by
  obtain ⟨a1, a2⟩ := h
  obtain ⟨d, hd⟩ : ∃ d, d = (B 59).toNat := ⟨_, rfl⟩
  rw [← hd] at a2 ⊢
  have w59 : repoB B d x y z 59 = d + 1 := up_s _ _ _
  have e : ∀ k, ¬ (60 ≤ k ∧ k ≤ 89) → k ≠ 59 → repoB B d x y z k = B k := fun k h1 h2 => by
    unfold repoB
    rw [up_n _ _ h2, up_n _ _ (by omega), up_n _ _ (by omega), up_n _ _ (by omega)]
  refine ⟨fun c hc => ?_, fun r hr => ?_⟩
  · rw [e 33 (by omega) (by omega)] at hc
    rw [e (34 + 3 * c) (by omega) (by omega), e (35 + 3 * c) (by omega) (by omega)]
    exact a1 c hc
  · rw [w59] at hr
    by_cases hrd : r < d
    · have := a2 r hrd
      unfold repoB
      rw [up_n _ _ (by omega), up_n _ _ (by omega), up_n _ _ (by omega), up_n _ _ (by omega)]
      exact this
    · have hce : r = d := by omega
      subst hce
      unfold repoB
      rw [up_n _ _ (by omega), up_n _ _ (by omega), up_s]
      exact hy
theorem rel_report (h : YR S T Y) (hS : SI S Y) (y f n : Int) : RR (repoS S y f n) (repoM T y f n) Y := by
  unfold repoS repoM
  have hb := YR_bi hS
  have h33 := hb.2.1; have h59 := hb.2.2.1; have h90 := hb.2.2.2.1
  have e59 := h.1.1.1.2.1.2.2.1
  have h6 := hS.1.1.2.2.2.2.2.2.1
  rw [YR_lo h hS (k := 6) (by decide)]
  by_cases hc : ((0 ≤ y ∧ y ≤ 99) ∧ (0 ≤ f ∧ f ≤ S.1.1 6 - 1)) ∧ (0 ≤ n ∧ n ≤ 9999)
  · rw [if_pos hc, if_pos hc, e59]
    by_cases hf : S.1.2.1 59 < 10
    · rw [if_pos hf, if_pos hf, ← e59]
      have hd : (T.1 59).toNat < 10 := by omega
      refine ⟨rfl, YR_lump h (XZ_upd h.1 ⟨?_, ?_, ?_⟩ ?_ (BI_repo h.1.2.2.1 hd (by omega) (by omega) (by omega)) ?_ (fun k hk => ?_)) (by omega)⟩
      · rw [trF_repoB]; exact h.1.1.1.1
      · have := BE_repo h.1.1.1.2.1 y f n (by omega) (by omega) (by omega)
        rw [e59] at this ⊢; exact this
      · rw [e59]; exact DE_repo h.1.1.1.2.2 y f n (by omega) (by omega) (by omega)
      · exact FI_hi (FI_hi (FI_hi (FI_hi h.1.2.1 (by omega)) (by omega)) (by omega)) (by omega)
      · unfold repoB; rw [up_n _ _ (by decide), up_n _ _ (by omega), up_n _ _ (by omega), up_n _ _ (by omega)]
      · unfold repoB; rw [up_n _ _ (by omega), up_n _ _ (by omega), up_n _ _ (by omega), up_n _ _ (by omega)]
    · rw [if_neg hf, if_neg hf]
      exact ⟨rfl, YR_full h⟩
  · rw [if_neg hc, if_neg hc]
    exact ⟨rfl, YR_bad h⟩
end RELS

