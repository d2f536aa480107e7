/-! the reference: small questions -/
/-- n is one of 0 to k -/
def zOn (n : Int32) (k : Nat) : Prop := ∃ j : Nat, j ≤ k ∧ n = nI j
theorem zOn_iff {n : Int32} {k : Nat} (hk : k < 2 ^ 31) : (nI 0 ≤ n ∧ n ≤ nI k) ↔ zOn n k := by
  constructor
  · rintro ⟨h1, h2⟩
    obtain ⟨j, hj, rfl⟩ := nI_of (x := n) (Int32.not_lt.mpr (by rw [← nI_0]; exact h1))
    exact ⟨j, (nI_leI hj hk).mp h2, rfl⟩
  · rintro ⟨j, hj, rfl⟩
    exact ⟨(nI_leI (by decide) (by omega)).mpr (Nat.zero_le _), (nI_leI (by omega) hk).mpr hj⟩
/-- how many directories there were, which are there -/
def zBas (A : ZA) (D : Nat) : Prop := A.1 2 = nI D ∧ 1 ≤ D ∧ D ≤ 12 ∧ ∀ j, j < 12 → (A.2 3 j = 1 ∧ j < D) ∨ A.2 3 j = 0
/-- d is a directory -/
def zIsD (A : ZA) (d : Int32) : Prop := ∃ j : Nat, j < 12 ∧ d = nI j ∧ A.2 3 j = 1
theorem one_ne0 : ¬ (1 : Int32) = 0 := by decide

/-- where the fragment begins that has the hash h: the last place up to h with a size -/
def zfg (s : Nat → Int32) (d : Nat) : Nat → Nat
  | 0 => 0
  | h + 1 => if s (8 * d + (h + 1)) = 0 then zfg s d h else h + 1
theorem zfg_le (s : Nat → Int32) (d : Nat) : ∀ h, zfg s d h ≤ h
  | 0 => Nat.le_refl _
  | h + 1 => by
    unfold zfg
    split
    · exact Nat.le_succ_of_le (zfg_le s d h)
    · exact Nat.le_refl _
/-- the hash of a name -/
def zhs (n : Nat) : Nat := (5 * n + 3) % 8
theorem zhs_lt (n : Nat) : zhs n < 8 := Nat.mod_lt _ (by decide)
/-- the fragment of a name: 8 times the directory, and the beginning -/
def zfn (A : ZA) (d n : Nat) : Nat := 8 * d + zfg (A.2 10) d (zhs n)
theorem zfn_lt (A : ZA) {d n : Nat} (hd : d < 12) : zfn A d n < 96 := by
  have h1 := zfg_le (A.2 10) d (zhs n)
  have h2 := zhs_lt n
  unfold zfn
  omega
theorem zfn_div (A : ZA) (d n : Nat) : zfn A d n / 8 = d := by
  have h1 := zfg_le (A.2 10) d (zhs n)
  have h2 := zhs_lt n
  unfold zfn
  omega
