/-! the plan: the class's trials against the reference's codes -/
theorem try_st (m c d k : Nat) (T : Nat → Int) : tryC m c (d + 1) k T = if wantF (jobsF T (((c / 5 ^ (m - 1 - k) % 5 : Nat)) : Int) (sizeF T)) false = 0 then tryC m c d (k + 1) (goF (jobsF T (((c / 5 ^ (m - 1 - k) % 5 : Nat)) : Int) (sizeF T)) false) else (wantF (jobsF T (((c / 5 ^ (m - 1 - k) % 5 : Nat)) : Int) (sizeF T)) false, goF (jobsF T (((c / 5 ^ (m - 1 - k) % 5 : Nat)) : Int) (sizeF T)) false) := rfl
theorem jobs_sz (T : Nat → Int) (j : Int) (n : Nat) : sizeF (jobsF T j n) = sizeF T := by unfold sizeF; rw [jobs_app, if_neg (by omega)]
/-- what a code of r jobs is worth -/
def Vv (r : Nat) (T : Nat → Int) (c : Nat) : Int := if (tryC r c r 0 T).1 = 0 then (tryC r c r 0 T).2 2 else -1
theorem dig_n {j c e k : Nat} : (j * 5 ^ (e + 1 + k) + c) / 5 ^ e % 5 = c / 5 ^ e % 5 := by
  have h : j * 5 ^ (e + 1 + k) + c = c + 5 ^ e * (5 * (j * 5 ^ k)) := by
    rw [Nat.add_comm, Nat.pow_add, Nat.pow_add, Nat.pow_one]
    congr 1
    rw [Nat.mul_left_comm, Nat.mul_assoc (5 ^ e)]
    try rw [Nat.mul_left_comm j]
  rw [h, Nat.add_mul_div_left _ _ (Nat.pow_pos (by decide))]
  omega
theorem try_sh {r j c : Nat} : ∀ (d k : Nat) (T : Nat → Int), k + d ≤ r → tryC (r + 1) (j * 5 ^ r + c) d (k + 1) T = tryC r c d k T := by
  intro d
  induction d with
  | zero => intro k T _; rfl
  | succ d ih =>
    intro k T hk
    have hd : (j * 5 ^ r + c) / 5 ^ (r + 1 - 1 - (k + 1)) % 5 = c / 5 ^ (r - 1 - k) % 5 := by
      obtain ⟨e, he⟩ : ∃ e, r = e + 1 + k := ⟨r - 1 - k, by omega⟩
      rw [show r + 1 - 1 - (k + 1) = e by omega, show r - 1 - k = e by omega, he]
      exact dig_n
    rw [try_st, try_st, hd]
    split
    · exact ih (k + 1) _ (by omega)
    · rfl
theorem Vv_st {r j c : Nat} (hj : j < 5) (hc : c < 5 ^ r) (T : Nat → Int) : Vv (r + 1) T (j * 5 ^ r + c) = if wantF (jobsF T (j : Int) (sizeF T)) false = 0 then Vv r (goF (jobsF T (j : Int) (sizeF T)) false) c else -1 := by
  have hd : (j * 5 ^ r + c) / 5 ^ (r + 1 - 1 - 0) % 5 = j := by
    rw [show r + 1 - 1 - 0 = r by omega, Nat.add_comm, Nat.mul_comm, Nat.add_mul_div_left _ _ (Nat.pow_pos (by decide)), Nat.div_eq_of_lt hc]
    omega
  unfold Vv
  rw [try_st, hd]
  by_cases hw : wantF (jobsF T (j : Int) (sizeF T)) false = 0
  · rw [if_pos hw, if_pos hw, try_sh r 0 _ (by omega)]
  · rw [if_neg hw, if_neg hw, if_neg hw]
theorem Vv_EJ {A B : Nat → Int} (h : EJ (sizeF A) A B) (r c : Nat) : Vv r A c = Vv r B c := by
  cases r with
  | zero =>
    show (if (0 : Int) = 0 then A 2 else -1) = (if (0 : Int) = 0 then B 2 else -1)
    rw [if_pos rfl, if_pos rfl, h 2 (by omega)]
  | succ r =>
    unfold Vv
    rw [try_st, try_st, ← EJ_sz h, jobs_EJ h]
theorem sz_goj (T : Nat → Int) (j : Int) (b : Bool) : sizeF (goF (jobsF T j (sizeF T)) b) = sizeF T := by rw [sz_go, jobs_sz]
/-- in a noon's year, and in the last, all jobs are worth the same -/
theorem Vv_same {r j c : Nat} (hj : j < 5) (hc : c < 5 ^ r) {T : Nat → Int} (h : noonF T (T 1) = true ∨ r = 0) : Vv (r + 1) T (j * 5 ^ r + c) = Vv (r + 1) T c := by
  have h0 := Vv_st (r := r) (j := 0) (c := c) (by decide) hc T
  rw [Nat.zero_mul, Nat.zero_add] at h0
  rw [Vv_st hj hc, h0]
  have hE := EJ_jobs T (j : Int) ((0 : Nat) : Int) (sizeF T)
  rw [EJ_want hE]
  by_cases hw : wantF (jobsF T ((0 : Nat) : Int) (sizeF T)) false = 0
  · rw [if_pos hw, if_pos hw]
    rcases h with h | h
    · refine Vv_EJ ?_ r c
      rw [sz_goj]
      refine EJ_goN hE false ?_
      rw [jobs_app, if_neg (by omega)]
      unfold noonF at h ⊢
      rw [jobs_app, if_neg (by omega)]
      exact h
    · subst h
      show (if (0 : Int) = 0 then goF (jobsF T (j : Int) (sizeF T)) false 2 else -1) = (if (0 : Int) = 0 then goF (jobsF T ((0 : Nat) : Int) (sizeF T)) false 2 else -1)
      rw [if_pos rfl, if_pos rfl, EJ_go2 hE]
  · rw [if_neg hw, if_neg hw]
theorem dig_t {j y : Int} {r : Nat} (hj : 0 ≤ j ∧ j < 5) (hy : 0 ≤ y ∧ y < 5 ^ r) : (j * 5 ^ r + y) / 5 ^ r % 5 = j := by
  have hp : (0 : Int) < 5 ^ r := Int.pow_pos (by decide)
  rw [Int.add_comm, Int.add_mul_ediv_right _ _ (by omega), Int.ediv_eq_zero_of_lt hy.1 hy.2]
  omega
theorem dig_i {j y : Int} {e k : Nat} : (j * 5 ^ (e + 1 + k) + y) / 5 ^ e % 5 = y / 5 ^ e % 5 := by
  have hp : (0 : Int) < 5 ^ e := Int.pow_pos (by decide)
  have h : j * 5 ^ (e + 1 + k) + y = y + 5 * (j * 5 ^ k) * 5 ^ e := by
    rw [Int.add_comm, Int.pow_add, Int.pow_add, Int.pow_succ, Int.pow_zero]
    congr 1
    rw [Int.one_mul, Int.mul_comm (5 * (j * 5 ^ k)), Int.mul_left_comm j, Int.mul_assoc (5 ^ e)]
  rw [h, Int.add_mul_ediv_right _ _ (by omega)]
  omega
/-- what a search leaves, against a scan of codes -/
def Ps (M D : Nat) (s s' : PS) (z : Int × Int) : Prop := s'.1 = z.1 ∧ (∀ i, i < D → s'.2.1 i = s.2.1 i) ∧ (z.2 = -1 → s'.2.2 = s.2.2) ∧ (z.2 ≠ -1 → ∀ i, i < M → s'.2.2 i = if i < D then s.2.1 i else z.2 / 5 ^ (M - 1 - i) % 5)
theorem plan_sc : ∀ (r D : Nat) (T : Nat → Int) (s : PS) (M : Nat), D + r = M → M ≤ 5 → -1 ≤ s.1 → Ps M D s (planR r D T s) (sc (Vv r T) s.1 (5 ^ r)) := by
  intro r
  induction r with
  | zero =>
    intro D T s M hD hM h1
    have e : sc (Vv 0 T) s.1 (5 ^ 0) = if s.1 < T 2 then (T 2, 0) else (s.1, -1) := by
      show (if s.1 < (if (0 : Int) = 0 then T 2 else -1) then ((if (0 : Int) = 0 then T 2 else -1), ((0 : Nat) : Int)) else (s.1, -1)) = _
      rw [if_pos rfl]; rfl
    rw [e]
    show Ps M D s (if s.1 < T 2 then (T 2, s.2.1, fun i => if i < 5 then s.2.1 i else s.2.2 i) else s) _
    by_cases h : s.1 < T 2
    · rw [if_pos h, if_pos h]
      refine ⟨rfl, fun i _ => rfl, fun h2 => absurd (show (0 : Int) = -1 from h2) (by decide), fun _ i hi => ?_⟩
      show (if i < 5 then s.2.1 i else s.2.2 i) = _
      rw [if_pos (by omega), if_pos (by omega)]
    · rw [if_neg h, if_neg h]
      exact ⟨rfl, fun i _ => rfl, fun _ => rfl, fun h2 => absurd rfl h2⟩
  | succ r ih =>
    intro D T s M hD hM h1
    have hj : ∀ J, J ≤ 5 → Ps M D s (planJ (planR r (D + 1)) T D J s) (sc (Vv (r + 1) T) s.1 (J * 5 ^ r)) := by
      intro J
      induction J with
      | zero => intro _; rw [Nat.zero_mul]; exact ⟨rfl, fun i _ => rfl, fun _ => rfl, fun h2 => absurd rfl h2⟩
      | succ J ihJ =>
        intro hJ
        obtain ⟨p1, p2, p3, p4⟩ := ihJ (by omega)
        have hin := sc_in (Vv (r + 1) T) s.1 (J * 5 ^ r)
        rw [Nat.succ_mul, sc_add]
        show Ps M D s (if wantF (jobsF T (J : Int) (sizeF T)) false = 0 then planR r (D + 1) (goF (jobsF T (J : Int) (sizeF T)) false) ((planJ (planR r (D + 1)) T D J s).1, up (planJ (planR r (D + 1)) T D J s).2.1 D (J : Int), (planJ (planR r (D + 1)) T D J s).2.2) else ((planJ (planR r (D + 1)) T D J s).1, up (planJ (planR r (D + 1)) T D J s).2.1 D (J : Int), (planJ (planR r (D + 1)) T D J s).2.2)) _
        generalize planJ (planR r (D + 1)) T D J s = q at p1 p2 p3 p4 ⊢
        generalize sc (Vv (r + 1) T) s.1 (J * 5 ^ r) = z at p1 p3 p4 hin ⊢
        have hz1 : s.1 ≤ z.1 := by rcases hin with ⟨_, h2⟩ | ⟨_, _, h3⟩ <;> omega
        by_cases hw : wantF (jobsF T (J : Int) (sizeF T)) false = 0
        · rw [if_pos hw]
          have hI := ih (D + 1) (goF (jobsF T (J : Int) (sizeF T)) false) (q.1, up q.2.1 D (J : Int), q.2.2) M (by omega) hM (by show -1 ≤ q.1; omega)
          have e : sc (fun c => Vv (r + 1) T (J * 5 ^ r + c)) z.1 (5 ^ r) = sc (Vv r (goF (jobsF T (J : Int) (sizeF T)) false)) q.1 (5 ^ r) := by
            rw [p1]
            exact scn_eq _ _ (fun c hc => by rw [Vv_st (by omega) hc, if_pos hw])
          rw [e]
          have hy := sc_in (Vv r (goF (jobsF T (J : Int) (sizeF T)) false)) q.1 (5 ^ r)
          obtain ⟨i1, i2, i3, i4⟩ := hI
          replace i1 : (planR r (D + 1) (goF (jobsF T (J : Int) (sizeF T)) false) (q.1, up q.2.1 D (J : Int), q.2.2)).1 = (sc (Vv r (goF (jobsF T (J : Int) (sizeF T)) false)) q.1 (5 ^ r)).1 := i1
          replace i2 : ∀ i, i < D + 1 → (planR r (D + 1) (goF (jobsF T (J : Int) (sizeF T)) false) (q.1, up q.2.1 D (J : Int), q.2.2)).2.1 i = up q.2.1 D (J : Int) i := i2
          replace i3 : (sc (Vv r (goF (jobsF T (J : Int) (sizeF T)) false)) q.1 (5 ^ r)).2 = -1 → (planR r (D + 1) (goF (jobsF T (J : Int) (sizeF T)) false) (q.1, up q.2.1 D (J : Int), q.2.2)).2.2 = q.2.2 := i3
          replace i4 : (sc (Vv r (goF (jobsF T (J : Int) (sizeF T)) false)) q.1 (5 ^ r)).2 ≠ -1 → ∀ i, i < M → (planR r (D + 1) (goF (jobsF T (J : Int) (sizeF T)) false) (q.1, up q.2.1 D (J : Int), q.2.2)).2.2 i = if i < D + 1 then up q.2.1 D (J : Int) i else (sc (Vv r (goF (jobsF T (J : Int) (sizeF T)) false)) q.1 (5 ^ r)).2 / 5 ^ (M - 1 - i) % 5 := i4
          generalize planR r (D + 1) (goF (jobsF T (J : Int) (sizeF T)) false) (q.1, up q.2.1 D (J : Int), q.2.2) = w at i1 i2 i3 i4 ⊢
          generalize sc (Vv r (goF (jobsF T (J : Int) (sizeF T)) false)) q.1 (5 ^ r) = y at i1 i3 i4 hy ⊢
          have hpre : ∀ i, i < D → w.2.1 i = s.2.1 i := fun i hi => by rw [i2 i (by omega), up_n _ _ (by omega)]; exact p2 i hi
          by_cases hy1 : y.2 = -1
          · rw [if_pos hy1]
            have hyb : y.1 = q.1 := by rcases hy with ⟨_, h2⟩ | ⟨h2, _, _⟩ <;> omega
            refine ⟨by rw [i1, hyb, p1], hpre, fun h2 => by rw [i3 hy1]; exact p3 h2, fun h2 i hi => by rw [i3 hy1]; exact p4 h2 i hi⟩
          · rw [if_neg hy1]
            have hy2 : 0 ≤ y.2 ∧ y.2 < ((5 ^ r : Nat) : Int) := by rcases hy with ⟨h2, _⟩ | ⟨h2, h3, _⟩ <;> omega
            rw [Int.natCast_pow] at hy2
            have hc : ((J * 5 ^ r : Nat) : Int) = (J : Int) * 5 ^ r := by rw [Int.natCast_mul, Int.natCast_pow]; rfl
            have hp : (0 : Int) < 5 ^ r := Int.pow_pos (by decide)
            have hn : 0 ≤ (J : Int) * 5 ^ r := Int.mul_nonneg (Int.natCast_nonneg J) (by omega)
            refine ⟨i1, hpre, fun h2 => ?_, fun _ i hi => ?_⟩
            · exfalso
              have h3 : ((J * 5 ^ r : Nat) : Int) + y.2 = -1 := h2
              rw [hc] at h3
              omega
            · rw [i4 hy1 i hi]
              show _ = if i < D then s.2.1 i else (((J * 5 ^ r : Nat) : Int) + y.2) / 5 ^ (M - 1 - i) % 5
              rw [hc]
              by_cases hiD : i < D
              · rw [if_pos (by omega), if_pos hiD, up_n _ _ (by omega)]; exact p2 i hiD
              · rw [if_neg hiD]
                by_cases hie : i = D
                · rw [if_pos (by omega), hie, up_s, show M - 1 - D = r by omega]
                  exact (dig_t (by omega) hy2).symm
                · rw [if_neg (by omega)]
                  obtain ⟨k, hk⟩ : ∃ k, r = (M - 1 - i) + 1 + k := ⟨r - 1 - (M - 1 - i), by omega⟩
                  generalize M - 1 - i = e at hk ⊢
                  rw [hk]
                  exact dig_i.symm
        · rw [if_neg hw]
          have e : sc (fun c => Vv (r + 1) T (J * 5 ^ r + c)) z.1 (5 ^ r) = (z.1, -1) := sc_none _ _ _ (fun c hc => by
            show Vv (r + 1) T (J * 5 ^ r + c) ≤ z.1
            rw [Vv_st (by omega) hc, if_neg hw]; omega)
          rw [e, if_pos rfl]
          exact ⟨p1, fun i hi => by show up q.2.1 D (J : Int) i = s.2.1 i; rw [up_n _ _ (by omega)]; exact p2 i hi, p3, p4⟩
    show Ps M D s (planJ (planR r (D + 1)) T D (if noonF T (T 1) = true ∨ r = 0 then 1 else 5) s) _
    by_cases hn : noonF T (T 1) = true ∨ r = 0
    · rw [if_pos hn]
      have h := hj 1 (by decide)
      rw [Nat.one_mul] at h
      have e : sc (Vv (r + 1) T) s.1 (5 ^ (r + 1)) = sc (Vv (r + 1) T) s.1 (5 ^ r) := by
        rw [show 5 ^ (r + 1) = 5 ^ r + 4 * 5 ^ r by rw [Nat.pow_succ]; omega, sc_add, sc_none _ _ _ (fun c hc => ?_), if_pos rfl]
        have hp : 0 < 5 ^ r := Nat.pow_pos (by decide)
        have hm := Nat.mod_lt (5 ^ r + c) hp
        have hq : (5 ^ r + c) / 5 ^ r < 5 := Nat.div_lt_of_lt_mul (by omega)
        have hd : 5 ^ r + c = (5 ^ r + c) / 5 ^ r * 5 ^ r + (5 ^ r + c) % 5 ^ r := by
          have := Nat.div_add_mod (5 ^ r + c) (5 ^ r)
          rw [Nat.mul_comm] at this
          exact this.symm
        show Vv (r + 1) T (5 ^ r + c) ≤ _
        rw [hd, Vv_same hq hm hn]
        exact sc_ge _ _ _ _ hm
      rw [e]
      exact h
    · rw [if_neg hn]
      have h := hj 5 (by decide)
      rw [show 5 * 5 ^ r = 5 ^ (r + 1) by rw [Nat.pow_succ, Nat.mul_comm]] at h
      exact h
theorem best_sc (m : Nat) (N : Nat → Int) : ∀ n, bestC m N n = ((sc (Vv m N) (-1) n).2, (sc (Vv m N) (-1) n).1) := by
  intro n
  induction n with
  | zero => rfl
  | succ n ih =>
    have hin := sc_in (Vv m N) (-1) n
    show (if (tryC m n m 0 N).1 = 0 ∧ (bestC m N n).2 < (tryC m n m 0 N).2 2 then ((n : Int), (tryC m n m 0 N).2 2) else bestC m N n) = _
    rw [ih, sc_st]
    have hV : Vv m N n = if (tryC m n m 0 N).1 = 0 then (tryC m n m 0 N).2 2 else -1 := rfl
    generalize sc (Vv m N) (-1) n = z at hin ⊢
    rw [hV]
    by_cases h0 : (tryC m n m 0 N).1 = 0
    · rw [if_pos h0]
      by_cases hl : z.1 < (tryC m n m 0 N).2 2
      · rw [if_pos ⟨h0, hl⟩, if_pos hl]
      · rw [if_neg (fun g => hl g.2), if_neg hl]
    · rw [if_neg (fun g => h0 g.1), if_neg h0, if_neg (by rcases hin with ⟨_, h2⟩ | ⟨_, _, h3⟩ <;> omega)]
theorem try_tr {m c : Nat} : ∀ (d k : Nat) {F : Nat → Int}, sizeF F ≤ 6 → (tryC m c d k (trF F)).1 = (tryC m c d k F).1 ∧ (tryC m c d k (trF F)).2 2 = (tryC m c d k F).2 2 := by
  intro d
  induction d with
  | zero => intro k F hs; exact ⟨rfl, trF_a F (by decide) hs⟩
  | succ d ih =>
    intro k F hs
    rw [try_st, try_st, trF_sz, ← trF_jobs hs]
    generalize ((c / 5 ^ (m - 1 - k) % 5 : Nat) : Int) = j
    have hsj : sizeF (jobsF F j (sizeF F)) ≤ 6 := by rw [jobs_sz]; exact hs
    have hsg : sizeF (goF (jobsF F j (sizeF F)) false) ≤ 6 := by rw [sz_go]; exact hsj
    rw [trF_want hsj, ← trF_go hsj]
    by_cases hw : wantF (jobsF F j (sizeF F)) false = 0
    · rw [if_pos hw, if_pos hw]
      exact ih (k + 1) hsg
    · rw [if_neg hw, if_neg hw]
      exact ⟨rfl, trF_a _ (by decide) hsg⟩
theorem Vv_tr {F : Nat → Int} (hs : sizeF F ≤ 6) (m c : Nat) : Vv m (trF F) c = Vv m F c := by
  unfold Vv
  rw [(try_tr m 0 hs).1, (try_tr m 0 hs).2]
section RELS
variable {S : YS} {T : RS} {Y : Int}
theorem rel_plan (h : YR S T Y) (hS : SI S Y) (m i : Int) (a b : Nat → Int) : RR (planS S m i a b) (planM T m i) Y := by
  unfold planS planM
  by_cases hc : (0 ≤ m ∧ m ≤ 5) ∧ -1 ≤ i
  · rw [if_pos hc, if_pos hc]
    have hP := plan_sc m.toNat 0 (trF S.1.1) (-1, a, b) m.toNat (by omega) (by omega) (Int.le_refl _)
    have hB := best_sc m.toNat T.1 (5 ^ m.toNat)
    have e : sc (Vv m.toNat T.1) (-1) (5 ^ m.toNat) = sc (Vv m.toNat (trF S.1.1)) (-1) (5 ^ m.toNat) := scn_eq _ _ (fun c _ => by rw [← h.1.1.1.1, Vv_tr (by rw [YR_sT h hS]; exact YR_sz hS)])
    rw [e] at hB
    rw [hB]
    have hin := sc_in (Vv m.toNat (trF S.1.1)) (-1) (5 ^ m.toNat)
    replace hP : Ps m.toNat 0 (-1, a, b) (planT (trF S.1.1) m.toNat a b) (sc (Vv m.toNat (trF S.1.1)) (-1) (5 ^ m.toNat)) := hP
    generalize sc (Vv m.toNat (trF S.1.1)) (-1) (5 ^ m.toNat) = z at hP hin ⊢
    generalize planT (trF S.1.1) m.toNat a b = q at hP ⊢
    obtain ⟨p1, p2, p3, p4⟩ := hP
    rw [p1]
    refine RR_same h ?_
    show (if z.1 = -1 ∨ i = -1 then z.1 else if i < m then q.2.2 i.toNat else -5) = (if z.2 = -1 ∨ i = -1 then z.1 else if i < m then z.2 / 5 ^ (m.toNat - 1 - i.toNat) % 5 else -5)
    by_cases h1 : z.2 = -1
    · have h2 : z.1 = -1 := by rcases hin with ⟨_, h2⟩ | ⟨h2, _, _⟩ <;> omega
      rw [if_pos (Or.inl h2), if_pos (Or.inl h1)]
    · have h2 : ¬ z.1 = -1 := by rcases hin with ⟨h2, _⟩ | ⟨_, _, h2⟩ <;> omega
      by_cases hi : i = -1
      · rw [if_pos (Or.inr hi), if_pos (Or.inr hi)]
      · rw [if_neg (c := z.1 = -1 ∨ i = -1) (fun g => g.elim h2 hi), if_neg (c := z.2 = -1 ∨ i = -1) (fun g => g.elim h1 hi)]
        by_cases him : i < m
        · rw [if_pos him, if_pos him, p4 h1 i.toNat (by omega), if_neg (by omega)]
        · rw [if_neg him, if_neg him]
  · rw [if_neg hc, if_neg hc]
    exact ⟨rfl, YR_bad h⟩
end RELS

