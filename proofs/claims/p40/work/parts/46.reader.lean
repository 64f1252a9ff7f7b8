/-! the reader's tokens -/
def ReadL (G : WG) (C : CF) (P : MP) (r : Nat) : Prop := gB G ≤ r ∧ C.1 r = some (.inl 7) ∧ C.1 (r + 1) = some (.inr (0, 150)) ∧ C.1 (r + 2) = some (.inr (0, 3)) ∧ P r 0 = some (r + 1) ∧ P r 1 = some (r + 2)
/-- the text: how long, and each byte's bounds -/
def ReadI (I : MI) (r n : Nat) : Prop := I r 2 = (n : Int) ∧ n ≤ 150 ∧ ∀ j, j < 150 → 0 ≤ I (r + 1) j ∧ I (r + 1) j ≤ 127
def isLet (c : Int) : Bool := decide (97 ≤ c ∧ c ≤ 122)
def isFig (c : Int) : Bool := decide (48 ≤ c ∧ c ≤ 57)
def skp (b : Nat → Int) : Nat → Nat → Nat
  | 0, p => p
  | d + 1, p => if b p = 32 then skp b d (p + 1) else p
def runB (q : Int → Bool) (b : Nat → Int) : Nat → Nat → Nat
  | 0, p => p
  | d + 1, p => if q (b p) = true then runB q b d (p + 1) else p
def numV (b : Nat → Int) (s : Nat) : Nat → Int
  | 0 => 0
  | k + 1 => 10 * numV b s k + b (s + k) - 48
theorem skp_in (b : Nat → Int) : ∀ d p, p ≤ skp b d p ∧ skp b d p ≤ p + d := by
  intro d
  induction d with
  | zero => intro p; simp [skp]
  | succ d ih => intro p; unfold skp; have := ih (p + 1); split <;> omega
theorem runB_in (q : Int → Bool) (b : Nat → Int) : ∀ d p, p ≤ runB q b d p ∧ runB q b d p ≤ p + d := by
  intro d
  induction d with
  | zero => intro p; simp [runB]
  | succ d ih => intro p; unfold runB; have := ih (p + 1); split <;> omega
/-- a token: where it starts, where it ends, its sort -/
def tok (b : Nat → Int) (n a : Nat) : Nat × Nat × Int :=
  if n ≤ skp b (n - a) a then (skp b (n - a) a, n, 0)
  else if b (skp b (n - a) a) = 59 then (skp b (n - a) a, skp b (n - a) a + 1, 1)
  else if isLet (b (skp b (n - a) a)) = true then (skp b (n - a) a, runB isLet b (n - (skp b (n - a) a + 1)) (skp b (n - a) a + 1), 2)
  else if isFig (b (skp b (n - a) a)) = true then (skp b (n - a) a, runB isFig b (n - skp b (n - a) a) (skp b (n - a) a), if runB isFig b (n - skp b (n - a) a) (skp b (n - a) a) - skp b (n - a) a ≤ 4 then 3 else 4)
  else (skp b (n - a) a, skp b (n - a) a + 1, 4)
theorem tok_in (b : Nat → Int) {n a : Nat} (h : a ≤ n) : a ≤ (tok b n a).1 ∧ (tok b n a).1 ≤ n ∧ (tok b n a).1 ≤ (tok b n a).2.1 ∧ (tok b n a).2.1 ≤ n ∧ 0 ≤ (tok b n a).2.2 ∧ (tok b n a).2.2 ≤ 4 ∧ ((tok b n a).2.2 ≠ 0 → (tok b n a).1 < (tok b n a).2.1) := by
  have h1 := skp_in b (n - a) a
  unfold tok
  split
  · exact ⟨by simp only []; omega, by simp only []; omega, by simp only []; omega, by simp only []; omega, by simp, by simp, by simp⟩
  split
  · exact ⟨by simp only []; omega, by simp only []; omega, by simp only []; omega, by simp only []; omega, by simp, by simp, by simp⟩
  split
  · have h2 := runB_in isLet b (n - (skp b (n - a) a + 1)) (skp b (n - a) a + 1)
    exact ⟨by simp only []; omega, by simp only []; omega, by simp only []; omega, by simp only []; omega, by simp, by simp, fun _ => by simp only []; omega⟩
  split
  · next hf =>
    have h2 : skp b (n - a) a < runB isFig b (n - skp b (n - a) a) (skp b (n - a) a) ∧ runB isFig b (n - skp b (n - a) a) (skp b (n - a) a) ≤ n := by
      obtain ⟨d, hd⟩ : ∃ d, n - skp b (n - a) a = d + 1 := ⟨n - skp b (n - a) a - 1, by omega⟩
      rw [hd]
      unfold runB
      rw [if_pos hf]
      have := runB_in isFig b d (skp b (n - a) a + 1)
      omega
    refine ⟨by simp only []; omega, by simp only []; omega, by simp only []; omega, by simp only []; omega, ?_, ?_, fun _ => by simp only []; omega⟩
    · simp only []; split <;> omega
    · simp only []; split <;> omega
  · exact ⟨by simp only []; omega, by simp only []; omega, by simp only []; omega, by simp only []; omega, by simp, by simp, by simp⟩
/-- what a reader's step leaves -/
def QR (r : Nat) (s e v : Int) (I : MI) (so : Int) (P : MP) (L : ML) : MI → MP → ML → Prop := fun I1 P1 L1 => I1 r 2 = I r 2 ∧ I1 r 3 = s ∧ I1 r 4 = e ∧ I1 r 5 = so ∧ (so = 3 → I1 r 6 = v) ∧ (∀ x, x ≠ r → I1 x = I x) ∧ P = P1 ∧ L = L1

