/-! the reference: the steps of a move, balance, anchor, a new one -/
theorem nI_ne1 {n : Nat} (h : n < 2 ^ 31) : ¬ nI n = -1 := fun e => nI_pos h (by rw [e]; decide)
/-- one more step -/
def zSt1 (A : ZA) : ZA := zsc A 18 (A.1 18 + nI 1)
/-- the last of the largest, the first of the least, of 0 .. k, as the reference goes -/
def zMx (g : Nat → Int32) : Nat → Nat
  | 0 => 0
  | k + 1 => if g (k + 1) ≤ g (zMx g k) then zMx g k else k + 1
def zMn (g : Nat → Int32) : Nat → Nat
  | 0 => 0
  | k + 1 => if g (zMn g k) ≤ g (k + 1) then zMn g k else k + 1
theorem zMx_le (g : Nat → Int32) : ∀ k, zMx g k ≤ k
  | 0 => Nat.le_refl _
  | k + 1 => by
    have := zMx_le g k
    unfold zMx
    split <;> omega
theorem zMn_le (g : Nat → Int32) : ∀ k, zMn g k ≤ k
  | 0 => Nat.le_refl _
  | k + 1 => by
    have := zMn_le g k
    unfold zMn
    split <;> omega
def zlo (A : ZA) (D : Nat) : Nat → Int32 := fun s => zlS A (nI s) (8 * D)
/-- whether the fragment k fits -/
abbrev zFt (A : ZA) (a m : Int32) (k : Nat) : Prop := ¬ A.2 10 k ≤ 0 ∧ zsv A k = a ∧ ¬ A.2 12 k < 1 ∧ ¬ m / nI 2 < A.2 12 k
/-- the best of the first k -/
def zBst (A : ZA) (a m : Int32) : Nat → Option Nat
  | 0 => none
  | k + 1 => if zFt A a m k then (match zBst A a m k with
      | none => some k
      | some j => if A.2 12 k ≤ A.2 12 j then some j else some k) else zBst A a m k
theorem zBst_lt {A : ZA} {a m : Int32} : ∀ {k j : Nat}, zBst A a m k = some j → j < k
  | 0, j, h => nomatch h
  | k + 1, j, h => by
    unfold zBst at h
    split at h
    · split at h
      · cases h
        omega
      · rename_i j' e
        have h9 := zBst_lt e
        split at h <;> cases h <;> omega
    · have := zBst_lt h
      omega
def zo1 : Option Nat → Int32
  | none => -1
  | some j => nI j
/-- the loads halved -/
def zHl (A : ZA) : Nat → ZA
  | 0 => A
  | k + 1 => zsa (zHl A k) 12 k ((zHl A k).2 12 k / nI 2)
theorem zHl_1 (A : ZA) : ∀ k, (zHl A k).1 = A.1
  | 0 => rfl
  | k + 1 => zHl_1 A k
/-- what balance chooses -/
def zba (A : ZA) (D : Nat) : Nat := zMx (zlo A D) 3
def zbb (A : ZA) (D : Nat) : Nat := zMn (zlo A D) 3
def zbm (A : ZA) (D : Nat) : Int32 := zlo A D (zba A D) - zlo A D (zbb A D)
def zbo (A : ZA) (D : Nat) : Option Nat := if zbm A D < nI 4 then none else zBst A (nI (zba A D)) (zbm A D) (8 * D)
