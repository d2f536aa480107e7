/-! the reference: links, remove, rename -/
/-- how many of the first k -/
def zcN (p : Nat → Bool) : Nat → Nat
  | 0 => 0
  | k + 1 => zcN p k + (if p k = true then 1 else 0)
theorem zcN_t {p : Nat → Bool} {k : Nat} (h : p k = true) : zcN p (k + 1) = zcN p k + 1 := by rw [zcN, if_pos h]
theorem zcN_f {p : Nat → Bool} {k : Nat} (h : ¬ p k = true) : zcN p (k + 1) = zcN p k + 0 := by rw [zcN, if_neg h]
theorem zcN_le (p : Nat → Bool) : ∀ k, zcN p k ≤ k
  | 0 => Nat.le_refl _
  | k + 1 => by
    have := zcN_le p k
    unfold zcN
    split <;> omega
def zpl (A : ZA) (f : Int32) : Nat → Bool := fun k => decide (A.2 6 k = f)
def zpu (A : ZA) (d : Nat) : Nat → Bool := fun k => !decide (A.2 6 (50 * d + k) = -1)
/-- a file's number, of F -/
def zFn (F : Nat) (f : Int32) : Prop := ∃ j, j < F ∧ f = nI j
theorem zFn_iff {F : Nat} (hF : F ≤ 30) {f : Int32} : (nI 0 ≤ f ∧ f ≤ nI F - nI 1) ↔ zFn F f := by
  match F, hF with
  | 0, _ =>
    constructor
    · rintro ⟨h1, h2⟩
      have h3 : nI 0 ≤ nI 0 - nI 1 := Int32.le_trans h1 h2
      exact absurd h3 (by decide)
    · rintro ⟨j, hj, -⟩
      exact absurd hj (Nat.not_lt_zero j)
  | F + 1, hF =>
    rw [pk_sub (by omega), Nat.add_sub_cancel, zOn_iff (by omega)]
    constructor
    · rintro ⟨j, hj, e⟩
      exact ⟨j, by omega, e⟩
    · rintro ⟨j, hj, e⟩
      exact ⟨j, by omega, e⟩
/-- a further link -/
def zLi (A : ZA) (c d n : Nat) (f : Int32) : ZA := zLn (zCh A (nI c) d n) (50 * d + n) f
theorem zdv : ∀ e : Nat, e < 12 → (¬ (-1 : Int32) ≤ -2 - nI e) ∧ -2 - (-2 - nI e) = nI e ∧ ¬ (-2 - nI e : Int32) = -1 := by decide +kernel
theorem zfv' : ∀ f : Nat, f < 30 → ((-1 : Int32) ≤ nI f) ∧ ¬ nI f = -1 := by decide +kernel
/-- held: names in it stand for something, or one of its fragments moves -/
def zHd (A : ZA) (d : Nat) : Prop := 0 < zcN (zpu A d) 50 ∨ (¬ A.1 16 = -1 ∧ A.1 16 = nI (A.1 16).toNatClampNeg ∧ (A.1 16).toNatClampNeg / 8 = d)
def zMv (A : ZA) : Prop := A.1 16 = -1 ∨ ∃ m, m < 96 ∧ A.1 16 = nI m
def zZ8 (A : ZA) (e : Nat) : Nat → ZA
  | 0 => A
  | k + 1 => zsa (zZ8 A e k) 10 (8 * e + k) (nI 0)
def zZu (A : ZA) (e c : Nat) : Nat → ZA
  | 0 => A
  | n + 1 => zsa (zZu A e c n) 13 (600 * c + (50 * e + n)) (nI 0)
def zZv (A : ZA) (e : Nat) : Nat → ZA
  | 0 => A
  | c + 1 => zZu (zZv A e c) e c 50
/-- a link is removed -/
def zRf (A : ZA) (c d n : Nat) : ZA := zsa (zCh A (nI c) d n) 6 (50 * d + n) (-1)
/-- the directory e is removed -/
def zRd (A : ZA) (c d n e : Nat) : ZA := zZv (zZ8 (zsa (zRf A c d n) 3 e (nI 0)) e 8) e 4
/-- does the way up from d meet top -/
def zblN (A : ZA) : Nat → Nat → Nat → Bool
  | 0, d, e => decide (d = e)
  | k + 1, d, e => if d = 0 ∨ d = e then decide (d = e) else zblN A k (zpar A d) e
/-- a link is renamed; a directory e is -/
def zRn (A : ZA) (c d n d2 n2 : Nat) : ZA := zsa (zsa (zsa (zCh (zCh A (nI c) d n) (nI c) d2 n2) 6 (50 * d + n) (-1)) 6 (50 * d2 + n2) (A.2 6 (50 * d + n))) 7 (50 * d2 + n2) (A.2 7 (50 * d + n))
def zRe (A : ZA) (c d n d2 n2 e : Nat) : ZA := zsa (zsa (zRn A c d n d2 n2) 4 e (nI d2)) 5 e (nI n2)
