/-! the reference: ends, changes, who serves, what is frozen -/
/-- the parent's number, and the name there -/
def zpar (A : ZA) (d : Nat) : Nat := (A.2 4 d).toNatClampNeg
def znam (A : ZA) (d : Nat) : Nat := (A.2 5 d).toNatClampNeg
def zinh (A : ZA) (f : Nat) : Nat := zfn A (zpar A (f / 8)) (znam A (f / 8))
/-- the directory d hangs at a name of a directory that is there -/
def zUp (A : ZA) (d : Nat) : Prop := A.2 4 d = nI (zpar A d) ∧ zpar A d < 12 ∧ A.2 3 (zpar A d) = 1 ∧ A.2 5 d = nI (znam A d) ∧ znam A d < 50
/-- from d it goes up to the root in at most k steps -/
def zDp (A : ZA) : Nat → Nat → Prop
  | 0, d => d = 0
  | k + 1, d => d = 0 ∨ (zUp A d ∧ zDp A k (zpar A d))
/-- directories that are there have their first fragment; fragments of the root have owners -/
def zFr (A : ZA) : Prop := (∀ d, d < 12 → A.2 3 d = 1 → ¬ A.2 10 (8 * d) = 0) ∧ ∀ h, h < 8 → ¬ A.2 10 h = 0 → ¬ A.2 11 h = -1
def zsvN (A : ZA) : Nat → Nat → Int32
  | 0, _ => nI 0
  | k + 1, f => if A.2 11 f = -1 then zsvN A k (zinh A f) else A.2 11 f
def zfzN (A : ZA) : Nat → Nat → Bool
  | 0, _ => false
  | k + 1, f => if ¬ A.1 16 = -1 ∧ nI f = A.1 16 then true else if A.2 11 f = -1 then zfzN A k (zinh A f) else false
def zsv (A : ZA) (f : Nat) : Int32 := zsvN A 12 f
def zfz (A : ZA) (f : Nat) : Bool := zfzN A 12 f
theorem zfg_ne {s : Nat → Int32} {d : Nat} (h0 : ¬ s (8 * d) = 0) : ∀ h, ¬ s (8 * d + zfg s d h) = 0
  | 0 => h0
  | h + 1 => by
    unfold zfg
    split
    · exact zfg_ne h0 h
    · assumption
theorem zinh_ok {A : ZA} (hF : zFr A) {f : Nat} (hu : zUp A (f / 8)) : zinh A f < 96 ∧ zinh A f / 8 = zpar A (f / 8) ∧ ¬ A.2 10 (zinh A f) = 0 ∧ A.2 3 (zinh A f / 8) = 1 := by
  have h1 := zfn_div A (zpar A (f / 8)) (znam A (f / 8))
  refine ⟨zfn_lt A hu.2.1, h1, zfg_ne (hF.1 _ hu.2.1 hu.2.2.1) _, ?_⟩
  rw [show zinh A f / 8 = zpar A (f / 8) from h1]
  exact hu.2.2.1
theorem zDp_up {A : ZA} {k f : Nat} (hF : zFr A) (hx : zDp A (k + 1) (f / 8)) (h3 : f < 96) (h4 : ¬ A.2 10 f = 0) (h9 : A.2 11 f = -1) : zUp A (f / 8) ∧ zDp A k (zpar A (f / 8)) :=
  hx.resolve_left (fun e => hF.2 f (by omega) h4 h9)
theorem zDp_0 {A : ZA} {f : Nat} (hF : zFr A) (hx : zDp A 0 (f / 8)) (h3 : f < 96) (h4 : ¬ A.2 10 f = 0) : ¬ A.2 11 f = -1 :=
  hF.2 f (by have h : f / 8 = 0 := hx; omega) h4
theorem zfzN_no {A : ZA} (h : A.1 16 = -1) : ∀ k f, zfzN A k f = false
  | 0, _ => rfl
  | k + 1, f => by
    unfold zfzN
    rw [if_neg (fun z => z.1 h)]
    split
    · exact zfzN_no h k _
    · rfl
theorem zfzN_at {A : ZA} {f : Nat} (h : ¬ A.1 16 = -1) (e : nI f = A.1 16) (k : Nat) : zfzN A (k + 1) f = true := by
  unfold zfzN
  rw [if_pos ⟨h, e⟩]
theorem zfzN_own {A : ZA} {f : Nat} (e : ¬ nI f = A.1 16) (h : ¬ A.2 11 f = -1) (k : Nat) : zfzN A (k + 1) f = false := by
  unfold zfzN
  rw [if_neg (fun z => e z.2), if_neg h]
theorem zfzN_up {A : ZA} {f : Nat} (e : ¬ nI f = A.1 16) (h : A.2 11 f = -1) (k : Nat) : zfzN A (k + 1) f = zfzN A k (zinh A f) := by
  rw [zfzN, if_neg (fun z => e z.2), if_pos h]
/-- all leases on a name end; those of others than ex are recalled: for the first k clients -/
def zEn (A : ZA) (a : Nat) (ex : Int32) : Nat → ZA
  | 0 => A
  | k + 1 => zsa (zsa (zEn A a ex k) 14 k ((zEn A a ex k).2 14 k + (if ¬ nI k = ex ∧ (zEn A a ex k).1 1 < (zEn A a ex k).2 13 (600 * k + a) then nI 1 else nI 0))) 13 (600 * k + a) (nI 0)
/-- a client changes a name -/
def zCh (A : ZA) (c : Int32) (d n : Nat) : ZA := zEn (zsa A 12 (zfn A d n) (A.2 12 (zfn A d n) + nI 1)) (50 * d + n) c 4
