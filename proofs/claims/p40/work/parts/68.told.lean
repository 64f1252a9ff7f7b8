/-! the letter that is told on -/
theorem fm_tab : ∀ i : Fin 111, -64 ≤ b_xor ((i.val : Int) - 40) 26 ∧ b_xor ((i.val : Int) - 40) 26 ≤ 127 ∧ (0 ≤ b_xor ((i.val : Int) - 40) 26 ↔ 40 ≤ i.val) ∧ -25 ≤ ((i.val : Int) - 40).tmod 26 ∧ ((i.val : Int) - 40).tmod 26 ≤ 25 ∧ (40 ≤ i.val → ((i.val : Int) - 40).tmod 26 = ((i.val : Int) - 40) % 26) ∧ (i.val < 40 → ((i.val : Int) - 40).tmod 26 = 0 → ((i.val : Int) - 40) % 26 = 0) ∧ (i.val < 40 → ((i.val : Int) - 40).tmod 26 ≠ 0 → ((i.val : Int) - 40) % 26 = ((i.val : Int) - 40).tmod 26 + 26) := by decide +kernel
theorem fm_at {x : Int} (h : -40 ≤ x ∧ x ≤ 70) : -64 ≤ b_xor x 26 ∧ b_xor x 26 ≤ 127 ∧ (0 ≤ b_xor x 26 ↔ 0 ≤ x) ∧ -25 ≤ x.tmod 26 ∧ x.tmod 26 ≤ 25 ∧ (0 ≤ x → x.tmod 26 = x % 26) ∧ (x < 0 → x.tmod 26 = 0 → x % 26 = 0) ∧ (x < 0 → x.tmod 26 ≠ 0 → x % 26 = x.tmod 26 + 26) := by
  have t := fm_tab ⟨(x + 40).toNat, by omega⟩
  have e : (((⟨(x + 40).toNat, by omega⟩ : Fin 111).val : Nat) : Int) - 40 = x := by
    show (((x + 40).toNat : Nat) : Int) - 40 = x
    omega
  rw [e] at t
  obtain ⟨t1, t2, t3, t4, t5, t6, t7, t8⟩ := t
  have f1 : 40 ≤ (x + 40).toNat ↔ 0 ≤ x := by omega
  have f2 : (x + 40).toNat < 40 ↔ x < 0 := by omega
  exact ⟨t1, t2, t3.trans f1, t4, t5, fun h => t6 (f1.mpr h), fun h => t7 (f2.mpr h), fun h => t8 (f2.mpr h)⟩
/-- a method's contract, its class being one of which some methods are the machine's own: this one is not -/
theorem met_ofF {l : Launch} {y : MethodName} {ws ws' : List Cond} {rm : Room} {Pc : Array Value → State → Prop} {Qc : Array Value → State → Outcome → State → Prop} {mc ms : Nat} {free : Addr → Prop} {cc : ByteArray} {maxL : Nat} {ret : Option FieldType}
    (hy : plainFor y = true) (hw : ws = Cond.code y cc maxL ret :: ws')
    (body : ∀ p e s m args below meth c s₁, BodyLoose p l y (headSpec ws rm) cc maxL ret e s m args below meth c s₁ → c.maxLocals = maxL → Pc args s →
      W p l e (headSpec ws rm).room s m args below meth c s.heap [] 0 0 (MQ below Qc args s mc ms free) (entryFrame m args maxL)) : Met l y ws rm Pc Qc mc ms free := by
  refine MetFree.of_bodySF (code := cc) (maxLocals := maxL) (ret := ret) hy ?_ ?_
  · intro args s m h hn
    obtain ⟨meth, c, h1, h2, h3, h4, h5, h6, -, -⟩ := Cond.code_spec hn (atoms_spec (ws := ws) h _ (by rw [hw]; exact List.mem_cons_self))
    exact ⟨meth, c, h1, h2, h3, h4, h5, h6⟩
  · intro p e s m args below meth c s₁ B hml hP _
    have hh0 : s₁.heap = s.heap := by rw [B.state]; rfl
    obtain ⟨t, a1, o, b1, b2, b3⟩ := body p e s m args below meth c s₁ B hml hP s₁ hh0 (Stand.of_body B)
    exact ⟨t, o, a1, b1, b2, ⟨b3.1, b3.2⟩⟩
theorem sp_ofF {G : WG} {y : MethodName} {cc : ByteArray} {mL : Nat} {rk mc ms : Nat} {args : List Value} {C : CF} {I : MI} {P : MP} {L : ML} {Q : Post} (hy : plainFor y = true) (hfit : (lg_sl args).length ≤ mL)
    (hQ : ∀ (v : Option Value) (C1 : CF) (I1 : MI) (P1 : MP) (L1 : ML), Q v C1 I1 P1 L1 → C1.2.1 = C.2.1 + mc ∧ C1.2.2 = C.2.2 + ms) (hQ2 : ∀ (v : Option Value) (C1 : CF) (I1 : MI) (P1 : MP) (L1 : ML), Q v C1 I1 P1 L1 → ∃ x : Int32, v = some (.int x)) (h : Wd G y cc mL (some .int) rk (C.2.1 + mc, C.2.2 + ms) Q 0 (ls0 mL args) [] C I P L) : Sp G y cc mL (some .int) rk mc ms args C I P L Q := by
  intro l
  refine met_ofF (cc := cc) (maxL := mL) (ret := some .int) hy rfl ?_
  intro p e s m args' below meth c s₁ B hml hv
  obtain ⟨rfl, hE, hR, hsz, hb⟩ := hv
  have hts : ∀ w ∈ LW, w.before args.toArray s = true := fun w hw => atoms_spec (ws := Cond.code y cc mL (some .int) :: LW) B.pre w (List.mem_cons_of_mem _ hw)
  have hr := B.returns
  rw [lg_entry_eq]
  refine h p l e _ s m _ below meth c _ (C.2.2, C.1) s.heap [] 0 0 _ ⟨B.exec, B.bytes, hml, findClass_of_methodNamed B.named, hts, hE, hb, Nat.le_refl _, Nat.le_refl _, ?_, ?_, (name_of_methodNamed B.named B.method).1, ?_⟩ ⟨hR, hsz, va_S.rf, ?_, ?_, ?_, ?_, fun q h1 h2 => ⟨h2, rfl⟩⟩ (lk_entry args hfit)
  · show C.2.1 + mc ≤ mc + s.heap.size; omega
  · show C.2.2 + ms ≤ ms + C.2.2; omega
  · intro v H locs cells slots arr C1 I1 P1 L1 pc hq hH hret
    obtain ⟨g1, g2, g3, g4, g5, -, -, g8⟩ := hH
    replace g5 : slots + C.2.2 = C1.2.2 := g5
    obtain ⟨z1, z2⟩ := hQ v C1 I1 P1 L1 hq
    refine W.cs (cells' := mc) (slots' := ms) (by omega) (by omega) ?_
    have post : ∀ t : State, t.heap = H → s.WarmedH t.vm → QcG G C.1 Q args.toArray s (.returned v) t := fun t ht hW => ⟨⟨v, C1, I1, P1, L1, rfl, hq, by rw [ht]; exact g1.moved hW.alike, by rw [ht]; exact g2, by rw [ht]; exact g8⟩, g3.F ht⟩
    obtain ⟨x, hx⟩ := hQ2 v C1 I1 P1 L1 hq
    subst hx
    obtain ⟨hd, ty, e1, e2⟩ := hret
    exact W.zret B.exec B.bytes (hr.trans e1) e2 post g3.2.2 hd
  · show 0 + s.heap.size = C.2.1; omega
  · show 0 + C.2.2 = C.2.2; omega
  · show C.2.1 ≤ C.2.1 + mc; omega
  · show C.2.2 ≤ C.2.2 + ms; omega
def toldF (l p : Int) : Nat → Int
  | 0 => l
  | n + 1 => toldF l p n + (if ((n : Int) + 1) % 6 = p then (if ((n : Int) + 1) % 2 = 1 then 1 else -1) else 0)
theorem toldF_in (l p : Int) : ∀ n : Nat, l - n ≤ toldF l p n ∧ toldF l p n ≤ l + n := by
  intro n
  induction n with
  | zero => simp [toldF]
  | succ n ih => unfold toldF; split <;> (try split) <;> omega
def toldS (S : YS) (w n p : Int) : Int × YS := if (0 ≤ w ∧ w ≤ S.1.2.1 90 - 1) ∧ (0 ≤ n ∧ n ≤ 30) ∧ (0 ≤ p ∧ p ≤ 5) then (toldF (S.1.2.1 (91 + (6 * w.toNat + p.toNat))) p n.toNat % 26, S) else (-2, yB S)

