/-! ===== prices and ways, as the told text has them ===== -/
def so_ (M : zMM) : Nat → Nat := fun t => (M 116 t).toNatClampNeg
def nd_ (M : zMM) (p j : Nat) : Nat := (M 119 (4 * p + j)).toNatClampNeg
/-- at what shame one sort stands for another one; 100: not at all -/
def sm_ (M : zMM) (a b : Nat) : Nat := if a = b then 0 else if M 121 (20 * a + b) = -1 then 100 else (M 121 (20 * a + b)).toNatClampNeg
def zq (M : zMM) (so : Nat → Nat) (p : Nat) : Nat → Nat → Nat := fun t j => sm_ M (so t) (nd_ M p j)
/-- the things of a set of trunks -/
def tL (M : zMM) (s : Nat) : Nat → Bool := fun g => decide (g < (M 109 2).toNatClampNeg) && s.testBit (M 117 g).toNatClampNeg
def zP (M : zMM) (so : Nat → Nat) (p t : Nat) (L : Nat → Bool) : Nat → Prop := fun v => zR (zq M so p) (M 113 t).toNatClampNeg (M 120 p).toNatClampNeg 0 L (M 112 t).toNatClampNeg v
def wd (M : zMM) (a b : Nat) : Nat := (M 126 (5 * a + b)).toNatClampNeg
def tr (M : zMM) (a b : Nat) : Nat := (M 114 (5 * a + b)).toNatClampNeg
