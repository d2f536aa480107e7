/-! the reference: time, leases, fragments, servers -/
theorem zsc_id (A : ZA) (k : Nat) : zsc A k (A.1 k) = A := by
  unfold zsc
  refine Prod.ext (funext fun j => ?_) rfl
  show (if j = k then A.1 k else A.1 j) = A.1 j
  split
  · rename_i e
    rw [e]
  · rfl
theorem zadd0 (v : Int32) : v + nI 0 = v := by rw [nI_0]; exact Int32.add_zero v
def zpr (A : ZA) (c : Nat) : Nat → Bool := fun k => decide (A.1 1 < A.2 13 (600 * c + k))
/-- a directory and a hash, or a name (up to l): not good, 1 or 2 -/
def zBh (A : ZA) (l : Nat) (d h : Int32) (k : Nat) : Prop := (k = 1 ∧ ¬ zOn h l) ∨ (k = 2 ∧ zOn h l ∧ ¬ zIsD A d)
theorem zBh_k {A : ZA} {l : Nat} {d n : Int32} {k : Nat} (h : zBh A l d n k) : 0 < k ∧ k < 3 := by
  rcases h with ⟨rfl, -⟩ | ⟨rfl, -⟩ <;> omega
theorem zBh_or (A : ZA) (l : Nat) (d h : Int32) : (∃ k, zBh A l d h k) ∨ ∃ d' h', d = nI d' ∧ d' < 12 ∧ A.2 3 d' = 1 ∧ h = nI h' ∧ h' ≤ l := by
  by_cases h1 : zOn h l
  · by_cases h2 : zIsD A d
    · obtain ⟨n', hn, en⟩ := h1
      obtain ⟨d', hd, ed, hl⟩ := h2
      exact Or.inr ⟨d', n', ed, hd, hl, en, hn⟩
    · exact Or.inl ⟨2, Or.inr ⟨rfl, h1, h2⟩⟩
  · exact Or.inl ⟨1, Or.inl ⟨rfl, h1⟩⟩
def zps (A : ZA) (d : Nat) : Nat → Bool := fun h => !decide (A.2 10 (8 * d + h) ≤ 0)
/-- the fragment f of the size s is split -/
def zSp (A : ZA) (f s : Nat) : ZA := zsa (zsa (zsa (zsa (zsa A 10 f (nI (s / 2))) 10 (f + s / 2) (nI (s / 2))) 11 (f + s / 2) (A.2 11 f)) 12 (f + s / 2) (A.2 12 f / nI 2)) 12 f (A.2 12 f - A.2 12 f / nI 2)
/-- two fragments at f, f + s, both of size s, are merged -/
def zMg (A : ZA) (f s : Nat) : ZA := zsa (zsa (zsa A 10 f (nI (2 * s))) 10 (f + s) (nI 0)) 12 f (A.2 12 f + A.2 12 (f + s))
/-- where the first of the two begins -/
def zb1 (b s : Nat) : Nat := if b % (2 * s) = 0 then b else b - s
