/-! the letter that is told on -/
theorem fm_tab : ∀ i : Fin 111, -64 ≤ b_xor ((i.val : Int) - 40) 26 ∧ b_xor ((i.val : Int) - 40) 26 ≤ 127 ∧ (0 ≤ b_xor ((i.val : Int) - 40) 26 ↔ 40 ≤ i.val) ∧ -25 ≤ ((i.val : Int) - 40).tmod 26 ∧ ((i.val : Int) - 40).tmod 26 ≤ 25 ∧ (40 ≤ i.val → ((i.val : Int) - 40).tmod 26 = ((i.val : Int) - 40) % 26) ∧ (i.val < 40 → ((i.val : Int) - 40).tmod 26 = 0 → ((i.val : Int) - 40) % 26 = 0) ∧ (i.val < 40 → ((i.val : Int) - 40).tmod 26 ≠ 0 → ((i.val : Int) - 40) % 26 = ((i.val : Int) - 40).tmod 26 + 26) := by decide +kernel
theorem fm_at {x : Int} (h : -40 ≤ x ∧ x ≤ 70) : -64 ≤ b_xor x 26 ∧ b_xor x 26 ≤ 127 ∧ (0 ≤ b_xor x 26 ↔ 0 ≤ x) ∧ -25 ≤ x.tmod 26 ∧ x.tmod 26 ≤ 25 ∧ (0 ≤ x → x.tmod 26 = x % 26) ∧ (x < 0 → x.tmod 26 = 0 → x % 26 = 0) ∧ (x < 0 → x.tmod 26 ≠ 0 → x % 26 = x.tmod 26 + 26) := by
  have t := fm_tab ⟨(x + 40).toNat, by omega⟩
  have e : (((⟨(x + 40).toNat, by omega⟩ : Fin 111).val : Nat) : Int) - 40 = x := by
    show (((x + 40).toNat : Nat) : Int) - 40 = x
    omega
  rw [e] at t
  obtain ⟨t1, t2, t3, t4, t5, t6, t7, t8⟩ := t
  have f1 : 40 ≤ (x + 40).toNat ↔ 0 ≤ x := by omega
  have f2 : (x + 40).toNat < 40 ↔ x < 0 := by omega
  exact ⟨t1, t2, t3.trans f1, t4, t5, fun h => t6 (f1.mpr h), fun h => t7 (f2.mpr h), fun h => t8 (f2.mpr h)⟩
/-- a method's contract, its class being one of which some methods are the machine's own: this one is not -/
theorem met_ofF {l : Launch} {y : MethodName} {ws ws' : List Cond} {rm : Room} {Pc : Array Value → State → Prop} {Qc : Array Value → State → Outcome → State → Prop} {mc ms : Nat} {free : Addr → Prop} {cc : ByteArray} {maxL : Nat} {ret : Option FieldType}
    (hy : plainFor y = true) (hw : ws = Cond.code y cc maxL ret :: ws')
    (body : ∀ p e s m args below meth c s₁, BodyLoose p l y (headSpec ws rm) cc maxL ret e s m args below meth c s₁ → c.maxLocals = maxL → Pc args s →
      W p l e (headSpec ws rm).room s m args below meth c s.heap [] 0 0 (MQ below Qc args s mc ms free) (entryFrame m args maxL)) : Met l y ws rm Pc Qc mc ms free := by
  refine MetFree.of_bodySF (code := cc) (maxLocals := maxL) (ret := ret) hy ?_ ?_
  · intro args s m h hn
    obtain ⟨meth, c, h1, h2, h3, h4, h5, h6, -, -⟩ := Cond.code_spec hn (atoms_spec (ws := ws) h _ (by rw [hw]; exact List.mem_cons_self))
    exact ⟨meth, c, h1, h2, h3, h4, h5, h6⟩
  · intro p e s m args below meth c s₁ B hml hP _
    have hh0 : s₁.heap = s.heap := by rw [B.state]; rfl
    obtain ⟨t, a1, o, b1, b2, b3⟩ := body p e s m args below meth c s₁ B hml hP s₁ hh0 (Stand.of_body B)
    exact ⟨t, o, a1, b1, b2, ⟨b3.1, b3.2⟩⟩
theorem sp_ofF {G : WG} {y : MethodName} {cc : ByteArray} {mL : Nat} {rk mc ms : Nat} {args : List Value} {C : CF} {I : MI} {P : MP} {L : ML} {Q : Post} (hy : plainFor y = true) (hfit : (lg_sl args).length ≤ mL)
    (hQ : ∀ (v : Option Value) (C1 : CF) (I1 : MI) (P1 : MP) (L1 : ML), Q v C1 I1 P1 L1 → C1.2.1 = C.2.1 + mc ∧ C1.2.2 = C.2.2 + ms) (hQ2 : ∀ (v : Option Value) (C1 : CF) (I1 : MI) (P1 : MP) (L1 : ML), Q v C1 I1 P1 L1 → ∃ x : Int32, v = some (.int x)) (h : Wd G y cc mL (some .int) rk (C.2.1 + mc, C.2.2 + ms) Q 0 (ls0 mL args) [] C I P L) : Sp G y cc mL (some .int) rk mc ms args C I P L Q := by
  intro l
  refine met_ofF (cc := cc) (maxL := mL) (ret := some .int) hy rfl ?_
  intro p e s m args' below meth c s₁ B hml hv
  obtain ⟨rfl, hE, hR, hsz, hb⟩ := hv
  have hts : ∀ w ∈ LW, w.before args.toArray s = true := fun w hw => atoms_spec (ws := Cond.code y cc mL (some .int) :: LW) B.pre w (List.mem_cons_of_mem _ hw)
  have hr := B.returns
  rw [lg_entry_eq]
  refine h p l e _ s m _ below meth c _ (C.2.2, C.1) s.heap [] 0 0 _ ⟨B.exec, B.bytes, hml, findClass_of_methodNamed B.named, hts, hE, hb, Nat.le_refl _, Nat.le_refl _, ?_, ?_, (name_of_methodNamed B.named B.method).1, ?_⟩ ⟨hR, hsz, va_S.rf, ?_, ?_, ?_, ?_, fun q h1 h2 => ⟨h2, rfl⟩⟩ (lk_entry args hfit)
  · show C.2.1 + mc ≤ mc + s.heap.size; omega
  · show C.2.2 + ms ≤ ms + C.2.2; omega
  · intro v H locs cells slots arr C1 I1 P1 L1 pc hq hH hret
    obtain ⟨g1, g2, g3, g4, g5, -, -, g8⟩ := hH
    replace g5 : slots + C.2.2 = C1.2.2 := g5
    obtain ⟨z1, z2⟩ := hQ v C1 I1 P1 L1 hq
    refine W.cs (cells' := mc) (slots' := ms) (by omega) (by omega) ?_
    have post : ∀ t : State, t.heap = H → s.WarmedH t.vm → QcG G C.1 Q args.toArray s (.returned v) t := fun t ht hW => ⟨⟨v, C1, I1, P1, L1, rfl, hq, by rw [ht]; exact g1.moved hW.alike, by rw [ht]; exact g2, by rw [ht]; exact g8⟩, g3.F ht⟩
    obtain ⟨x, hx⟩ := hQ2 v C1 I1 P1 L1 hq
    subst hx
    obtain ⟨hd, ty, e1, e2⟩ := hret
    exact W.zret B.exec B.bytes (hr.trans e1) e2 post g3.2.2 hd
  · show 0 + s.heap.size = C.2.1; omega
  · show 0 + C.2.2 = C.2.2; omega
  · show C.2.1 ≤ C.2.1 + mc; omega
  · show C.2.2 ≤ C.2.2 + ms; omega
theorem sJ9_floorMod {G : WG} {C : CF} {I : MI} {P : MP} {L : ML} {x : Int} (hx : -40 ≤ x ∧ x ≤ 70 := by omega) : SJ9_floorMod_7cf53 G [.int (zI x), .int (zI 26)] C I P L (NI C (XI (x % 26) I P L)) := by
  obtain ⟨t1, t2, t3, t4, t5, t6, t7, t8⟩ := fm_at hx
  refine sp_ofF (by decide +kernel) (Nat.le_of_ble_eq_true rfl) (fun _ _ _ _ _ h => by rw [h.1]; exact ⟨rfl, rfl⟩) (fun _ _ _ _ _ h => by obtain ⟨-, r, hr, -⟩ := h; exact ⟨_, hr⟩) ?_
  change Wd _ _ _ _ _ _ _ _ 0 [some _, some _, none] [] _ _ _ _
  refine r_iload_n (pc := 0) dJ9_floorMod_7cf53_0 rfl ?_
  refine r_iload_n (pc := 1) dJ9_floorMod_7cf53_1 rfl ?_
  refine r_iremT (pc := 2) dJ9_floorMod_7cf53_2 (by omega) (by omega) (by omega) ?_
  refine r_istore_n (pc := 3) dJ9_floorMod_7cf53_3 (by decide) ?_
  refine r_iload_n (pc := 4) dJ9_floorMod_7cf53_4 rfl ?_
  refine r_iload_n (pc := 5) dJ9_floorMod_7cf53_5 rfl ?_
  refine r_ixor (pc := 6) dJ9_floorMod_7cf53_6 ?_
  refine r_if_ge (pc := 7) 18 dJ9_floorMod_7cf53_7 (by decide) (by omega) (fun h7 => ?_) (fun h7 => ?_)
  · skip
    refine r_iload_n (pc := 18) dJ9_floorMod_7cf53_18 rfl ?_
    refine t_iret (pc := 19) dJ9_floorMod_7cf53_19 rfl rfl ?_
    first | exact ⟨t6 (t3.mp h7), rfl, rfl, rfl⟩ | exact ⟨by rw [h11]; exact (t7 (by omega) h11).symm, rfl, rfl, rfl⟩
  · skip
    refine r_iload_n (pc := 10) dJ9_floorMod_7cf53_10 rfl ?_
    refine r_if_eq (pc := 11) 18 dJ9_floorMod_7cf53_11 (by decide) (by omega) (fun h11 => ?_) (fun h11 => ?_)
    · skip
      refine r_iload_n (pc := 18) dJ9_floorMod_7cf53_18 rfl ?_
      refine t_iret (pc := 19) dJ9_floorMod_7cf53_19 rfl rfl ?_
      exact ⟨by rw [h11]; exact (t7 (by omega) h11).symm, rfl, rfl, rfl⟩
    · skip
      refine r_iload_n (pc := 14) dJ9_floorMod_7cf53_14 rfl ?_
      refine r_iload_n (pc := 15) dJ9_floorMod_7cf53_15 rfl ?_
      refine r_iadd (pc := 16) dJ9_floorMod_7cf53_16 ?_
      refine t_iret (pc := 17) dJ9_floorMod_7cf53_17 rfl rfl ?_
      exact ⟨(t8 (by omega) h11).symm, rfl, rfl, rfl⟩
def toldF (l p : Int) : Nat → Int
  | 0 => l
  | n + 1 => toldF l p n + (if ((n : Int) + 1) % 6 = p then (if ((n : Int) + 1) % 2 = 1 then 1 else -1) else 0)
theorem toldF_in (l p : Int) : ∀ n : Nat, l - n ≤ toldF l p n ∧ toldF l p n ≤ l + n := by
  intro n
  induction n with
  | zero => simp [toldF]
  | succ n ih => unfold toldF; split <;> (try split) <;> omega
def toldS (S : YS) (w n p : Int) : Int × YS := if (0 ≤ w ∧ w ≤ S.1.2.1 90 - 1) ∧ (0 ≤ n ∧ n ≤ 30) ∧ (0 ≤ p ∧ p ≤ 5) then (toldF (S.1.2.1 (91 + (6 * w.toNat + p.toNat))) p n.toNat % 26, S) else (-2, yB S)
theorem sX11_toldOn {G : WG} {C : CF} {I : MI} {P : MP} {L : ML} {Y w n p : Int} (h : YI G C I P Y := by assumption) (hw' : iR w := by omega) (hn' : iR n := by omega) (hp' : iR p := by omega) : SX11_toldOn G [.ref (gB G), .int (zI w), .int (zI n), .int (zI p)] C I P L (NI C (QY G (toldS (rdY G I L) w n p).1 (toldS (rdY G I L) w n p).2 Y C)) := by
  have hyl := h.1
  obtain ⟨hK, hK4, hP0, hP1, hP2, hP3, hP4, hP5, hP6, hr, hl, hl2, hl3, hl4, htr, hKd⟩ := id hyl
  have hKl := hl.2.1
  have hKt := htr.2.1
  have hPb : P (gB G + 11) 1 = some (gB G + 12) := hl.2.2.2.2.1
  have hb : BooksL G C P (gB G + 12) := hl.2.2.2.2.2.2.1
  have hKb := hb.2.1
  have hBI : BI (rdB I (gB G + 12)) := h.2.1.1.2.1
  have hPf : P (gB G + 11) 0 = some (gB G + 21) := hl.2.2.2.1
  have hf : FarmL G C P (gB G + 21) := hl.2.2.2.2.2.2.2.1
  have hKf := hf.2.1
  have hF : FI (rdF I (gB G + 21)) Y := h.2.1.1.1
  have hW : WayL C P (gB G + 21) (rdF I (gB G + 21)) := h.2.2.1.1.1
  have hs6 := hF.2.2.2.2.2.2.1
  have e10 : I (gB G + 21) 10 = rdF I (gB G + 21) 6 := at_10 I (gB G + 21)
  have eS : (rdY G I L).1.1 6 = rdF I (gB G + 21) 6 := rfl
  have hw4 := hBI.2.2.2.1
  have e3 : I (gB G + 12) 3 = ((rdB I (gB G + 12) 90).toNat : Int) := by rw [ab_3 I (gB G + 12)]; omega
  have e3' : I (gB G + 12) 3 = rdB I (gB G + 12) 90 := ab_3 I (gB G + 12)
  have eS3 : (rdY G I L).1.2.1 90 = rdB I (gB G + 12) 90 := rfl
  refine en_I (by decide +kernel) (Nat.le_of_ble_eq_true rfl) ?_
  change Wd _ _ _ _ _ _ _ _ 0 [some _, some _, some _, some _, none, none] [] _ _ _ _
  have loop : (0 ≤ w ∧ w ≤ (rdY G I L).1.2.1 90 - 1) ∧ (0 ≤ n ∧ n ≤ 30) ∧ (0 ≤ p ∧ p ≤ 5) → ∀ (d f : Nat) (i k : Int), f + d = n.toNat → i = (f : Int) + 1 → k = toldF (rdB I (gB G + 12) (91 + (6 * w.toNat + p.toNat))) p f → Wd G yX11_toldOn cX11_toldOn 6 (some .int) 2 (C.2.1 + 0, C.2.2 + 0) (NI C (QY G (toldS (rdY G I L) w n p).1 (toldS (rdY G I L) w n p).2 Y C)) 51 [some (.ref (gB G)), some (.int (zI w)), some (.int (zI n)), some (.int (zI p)), some (.int (zI k)), some (.int (zI i))] [] C I P L := by
    intro hz d
    have hll := hBI.2.2.2.2.2.2 (6 * w.toNat + p.toNat) (by omega)
    induction d with
    | zero =>
      intro f i k hd hi hk
      have hin := toldF_in (rdB I (gB G + 12) (91 + (6 * w.toNat + p.toNat))) p f
      rw [← hk] at hin
      refine r_iload (pc := 51) dX11_toldOn_51 rfl ?_
      refine r_iload_n (pc := 53) dX11_toldOn_53 rfl ?_
      refine r_icmp_gt (pc := 54) 90 dX11_toldOn_54 (by decide) (by omega) (by omega) (fun h54 => ?_) (fun h54 => ?_)
      · skip
        refine r_iload (pc := 90) dX11_toldOn_90 rfl ?_
        refine r_bipush (pc := 92) dX11_toldOn_92 (by decide) ?_
        refine i_S2ix (pc := 94) okJ9_floorMod_7cf53 staJ9_floorMod_7cf53 q947 dX11_toldOn_94 (by decide) (Nat.le_of_ble_eq_true rfl) (sJ9_floorMod) ?_
        refine t_iret (pc := 97) dX11_toldOn_97 rfl rfl ?_
        unfold toldS
        rw [if_pos hz, hk, show f = n.toNat by omega]
        exact QY_same h
      · exfalso; omega
    | succ d ih =>
      intro f i k hd hi hk
      have hin := toldF_in (rdB I (gB G + 12) (91 + (6 * w.toNat + p.toNat))) p f
      rw [← hk] at hin
      have hst : toldF (rdB I (gB G + 12) (91 + (6 * w.toNat + p.toNat))) p (f + 1) = k + (if ((f : Int) + 1) % 6 = p then (if ((f : Int) + 1) % 2 = 1 then 1 else -1) else 0) := by rw [toldF, hk]
      refine r_iload (pc := 51) dX11_toldOn_51 rfl ?_
      refine r_iload_n (pc := 53) dX11_toldOn_53 rfl ?_
      refine r_icmp_gt (pc := 54) 90 dX11_toldOn_54 (by decide) (by omega) (by omega) (fun h54 => ?_) (fun h54 => ?_)
      · exfalso; omega
      · skip
        refine r_iload (pc := 57) dX11_toldOn_57 rfl ?_
        refine r_bipush (pc := 59) dX11_toldOn_59 (by decide) ?_
        refine r_irem (pc := 61) dX11_toldOn_61 (by omega) (by omega) (by omega) (by omega) ?_
        refine r_iload_n (pc := 62) dX11_toldOn_62 rfl ?_
        refine r_icmp_ne (pc := 63) 84 dX11_toldOn_63 (by decide) (by omega) (by omega) (fun h63 => ?_) (fun h63 => ?_)
        · skip
          refine r_iinc (pc := 84) dX11_toldOn_84 rfl ?_
          refine r_goto (pc := 87) 51 dX11_toldOn_87 (by decide) ?_
          refine ih (f + 1) _ _ (by omega) (by omega) ?_
          rw [hst, if_neg (by omega)]; omega
        · skip
          refine r_iload (pc := 66) dX11_toldOn_66 rfl ?_
          refine r_iload (pc := 68) dX11_toldOn_68 rfl ?_
          refine r_iconst (pc := 70) dX11_toldOn_70 ?_
          refine r_irem (pc := 71) dX11_toldOn_71 (by omega) (by omega) (by omega) (by omega) ?_
          refine r_iconst (pc := 72) dX11_toldOn_72 ?_
          refine r_icmp_ne (pc := 73) 80 dX11_toldOn_73 (by decide) (by omega) (by omega) (fun h73 => ?_) (fun h73 => ?_)
          · skip
            refine r_iconst (pc := 80) dX11_toldOn_80 ?_
            refine r_iadd (pc := 81) dX11_toldOn_81 ?_
            refine r_istore (pc := 82) dX11_toldOn_82 (by decide) ?_
            refine r_iinc (pc := 84) dX11_toldOn_84 rfl ?_
            refine r_goto (pc := 87) 51 dX11_toldOn_87 (by decide) ?_
            refine ih (f + 1) _ _ (by omega) (by omega) ?_
            rw [hst, if_pos (by omega), if_neg (by omega)]
          · skip
            refine r_iconst (pc := 76) dX11_toldOn_76 ?_
            refine r_goto (pc := 77) 81 dX11_toldOn_77 (by decide) ?_
            refine r_iadd (pc := 81) dX11_toldOn_81 ?_
            refine r_istore (pc := 82) dX11_toldOn_82 (by decide) ?_
            refine r_iinc (pc := 84) dX11_toldOn_84 rfl ?_
            refine r_goto (pc := 87) 51 dX11_toldOn_87 (by decide) ?_
            refine ih (f + 1) _ _ (by omega) (by omega) ?_
            rw [hst, if_pos (by omega), if_pos (by omega)]
  refine r_aload_n (pc := 0) dX11_toldOn_0 rfl ?_
  refine r_iload_n (pc := 1) dX11_toldOn_1 rfl ?_
  refine i_V1ix (pc := 2) okX11_isWord inX11_isWord selX11_isWord q939 dX11_toldOn_2 (by assumption) rfl (by decide) (Nat.le_of_ble_eq_true rfl) (sWord) ?_
  refine r_if_eq (pc := 5) 27 dX11_toldOn_5 (by decide) (by first | omega | (split <;> decide)) (fun h5 => ?_) (fun h5 => ?_)
  · skip
    refine r_aload_n (pc := 27) dX11_toldOn_27 rfl ?_
    refine r_bipush (pc := 28) dX11_toldOn_28 (by decide) ?_
    refine i_V1ix (pc := 30) okX11_refuseBad inX11_refuseBad selX11_refuseBad q337 dX11_toldOn_30 (by assumption) rfl (by decide) (Nat.le_of_ble_eq_true rfl) (sX11_refuseBad) ?_
    refine t_iret (pc := 33) dX11_toldOn_33 rfl rfl ?_
    have hz : ¬ ((0 ≤ w ∧ w ≤ (rdY G I L).1.2.1 90 - 1) ∧ (0 ≤ n ∧ n ≤ 30) ∧ (0 ≤ p ∧ p ≤ 5)) := by
      first
      | exact fun hz => (wf h5) hz.1
      | exact fun hz => (wf h15) hz.2.1
      | exact fun hz => (wf h24) hz.2.2
    unfold toldS
    rw [if_neg hz]
    exact QY_bad h
  · skip
    refine r_iload_n (pc := 8) dX11_toldOn_8 rfl ?_
    refine r_iconst (pc := 9) dX11_toldOn_9 ?_
    refine r_bipush (pc := 10) dX11_toldOn_10 (by decide) ?_
    refine i_S3ix (pc := 12) okX11_within staX11_within q334 dX11_toldOn_12 (by decide) (Nat.le_of_ble_eq_true rfl) (sX11_within) ?_
    refine r_if_eq (pc := 15) 27 dX11_toldOn_15 (by decide) (by first | omega | (split <;> decide)) (fun h15 => ?_) (fun h15 => ?_)
    · skip
      refine r_aload_n (pc := 27) dX11_toldOn_27 rfl ?_
      refine r_bipush (pc := 28) dX11_toldOn_28 (by decide) ?_
      refine i_V1ix (pc := 30) okX11_refuseBad inX11_refuseBad selX11_refuseBad q337 dX11_toldOn_30 (by assumption) rfl (by decide) (Nat.le_of_ble_eq_true rfl) (sX11_refuseBad) ?_
      refine t_iret (pc := 33) dX11_toldOn_33 rfl rfl ?_
      have hz : ¬ ((0 ≤ w ∧ w ≤ (rdY G I L).1.2.1 90 - 1) ∧ (0 ≤ n ∧ n ≤ 30) ∧ (0 ≤ p ∧ p ≤ 5)) := by
        first
        | exact fun hz => (wf h5) hz.1
        | exact fun hz => (wf h15) hz.2.1
        | exact fun hz => (wf h24) hz.2.2
      unfold toldS
      rw [if_neg hz]
      exact QY_bad h
    · skip
      refine r_iload_n (pc := 18) dX11_toldOn_18 rfl ?_
      refine r_iconst (pc := 19) dX11_toldOn_19 ?_
      refine r_iconst (pc := 20) dX11_toldOn_20 ?_
      refine i_S3ix (pc := 21) okX11_within staX11_within q334 dX11_toldOn_21 (by decide) (Nat.le_of_ble_eq_true rfl) (sX11_within) ?_
      refine r_if_ne (pc := 24) 34 dX11_toldOn_24 (by decide) (by first | omega | (split <;> decide)) (fun h24 => ?_) (fun h24 => ?_)
      · skip
        refine r_aload_n (pc := 34) dX11_toldOn_34 rfl ?_
        refine r_getP (pc := 35) dX11_toldOn_35 frX11_40 (by assumption) (by assumption) ?_
        refine r_getP (pc := 38) dX11_toldOn_38 frX11_191 (by assumption) (by assumption) ?_
        refine r_iload_n (pc := 41) dX11_toldOn_41 rfl ?_
        refine r_iload_n (pc := 42) dX11_toldOn_42 rfl ?_
        have h1 := wt h5
        have h2 := wt h15
        have h3 := wt h24
        refine i_V2ix (pc := 43) okX0_letter inX0_letter selX0_letter q943 dX11_toldOn_43 (by assumption) rfl (by decide) (Nat.le_of_ble_eq_true rfl) (sX0_letter (v := w.toNat) (i := p.toNat)) ?_
        refine r_istore (pc := 46) dX11_toldOn_46 (by decide) ?_
        refine r_iconst (pc := 48) dX11_toldOn_48 ?_
        refine r_istore (pc := 49) dX11_toldOn_49 (by decide) ?_
        exact loop ⟨h1, h2, h3⟩ n.toNat 0 _ _ (by omega) (by omega) rfl
      · skip
        refine r_aload_n (pc := 27) dX11_toldOn_27 rfl ?_
        refine r_bipush (pc := 28) dX11_toldOn_28 (by decide) ?_
        refine i_V1ix (pc := 30) okX11_refuseBad inX11_refuseBad selX11_refuseBad q337 dX11_toldOn_30 (by assumption) rfl (by decide) (Nat.le_of_ble_eq_true rfl) (sX11_refuseBad) ?_
        refine t_iret (pc := 33) dX11_toldOn_33 rfl rfl ?_
        have hz : ¬ ((0 ≤ w ∧ w ≤ (rdY G I L).1.2.1 90 - 1) ∧ (0 ≤ n ∧ n ≤ 30) ∧ (0 ≤ p ∧ p ≤ 5)) := by
          first
          | exact fun hz => (wf h5) hz.1
          | exact fun hz => (wf h15) hz.2.1
          | exact fun hz => (wf h24) hz.2.2
        unfold toldS
        rw [if_neg hz]
        exact QY_bad h

