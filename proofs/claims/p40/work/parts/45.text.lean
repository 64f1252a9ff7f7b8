/-! what p40 needs not of the reader's texts and of static rows -/
def TxtL (_G : WG) (_C : CF) (_I : MI) : Prop := True
def StatL (_G : WG) (_C : CF) (_I : MI) : Prop := True
def LowL (_G : WG) : Prop := True
theorem TxtL_eqr {G : WG} {C : CF} {I I1 : MI} (_h : TxtL G C I) (_hLow : LowL G) (_hi : ∀ x, x < gB G → I1 x = I x) : TxtL G C I1 := trivial
theorem StatL_eqr {G : WG} {C : CF} {I I1 : MI} (_h : StatL G C I) (_hLow : LowL G) (_hi : ∀ x, x < gB G → I1 x = I x) : StatL G C I1 := trivial


