/-! the class: balance -/
def zgl (B : ZA) : Nat → Int32 := fun s => zlc B (nI s) 96
def zbx (B : ZA) : Nat := zMx (zgl B) 3
def zby (B : ZA) : Nat := zMn (zgl B) 3
def zbu (B : ZA) : Int32 := zgl B (zbx B) - zgl B (zby B)
def zbc (B : ZA) : Option Nat := if zbu B < nI 4 then none else zhv B (nI (zbx B)) (zbu B / nI 2) 96
