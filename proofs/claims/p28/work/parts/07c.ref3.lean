/-! the reference: names are looked up, made -/
theorem zOn_N {n : Int32} {k : Nat} (h : zOn n k) : ∃ j, j < k + 1 ∧ n = nI j := h.elim fun j hj => ⟨j, by omega, hj.2⟩
/-- client, directory and name are good: c', d', n' -/
def zGd (A : ZA) (c d n : Int32) (c' d' n' : Nat) : Prop := c = nI c' ∧ c' < 4 ∧ d = nI d' ∧ d' < 12 ∧ A.2 3 d' = 1 ∧ n = nI n' ∧ n' < 50
/-- they are not: 1 or 2 -/
def zBad (A : ZA) (c d n : Int32) (k : Nat) : Prop := (k = 1 ∧ ¬ (zOn c 3 ∧ zOn n 49)) ∨ (k = 2 ∧ zOn c 3 ∧ zOn n 49 ∧ ¬ zIsD A d)
theorem zGd_or (A : ZA) (c d n : Int32) : (∃ k, zBad A c d n k) ∨ ∃ c' d' n', zGd A c d n c' d' n' := by
  by_cases h1 : zOn c 3 ∧ zOn n 49
  · by_cases h2 : zIsD A d
    · obtain ⟨⟨c', hc, ec⟩, ⟨n', hn, en⟩⟩ := h1
      obtain ⟨d', hd, ed, hl⟩ := h2
      exact Or.inr ⟨c', d', n', ec, by omega, ed, hd, hl, en, by omega⟩
    · exact Or.inl ⟨2, Or.inr ⟨rfl, h1.1, h1.2, h2⟩⟩
  · exact Or.inl ⟨1, Or.inl ⟨rfl, h1⟩⟩
theorem zBad_k {A : ZA} {c d n : Int32} {k : Nat} (h : zBad A c d n k) : 0 < k ∧ k < 3 := by
  rcases h with ⟨rfl, -⟩ | ⟨rfl, -⟩ <;> omega
theorem zGd_i {A : ZA} {c d n : Int32} {c' d' n' : Nat} (h : zGd A c d n c' d' n') : zOn c 3 ∧ zOn n 49 ∧ zIsD A d :=
  ⟨⟨c', by have := h.2.1; omega, h.1⟩, ⟨n', by have := h.2.2.2.2.2.2; omega, h.2.2.2.2.2.1⟩, ⟨d', h.2.2.2.1, h.2.2.1, h.2.2.2.2.1⟩⟩
/-- what the reference rests on -/
def zWf (A : ZA) : Prop := (∃ D, zBas A D) ∧ zFr A ∧ ∀ d, d < 12 → A.2 3 d = 1 → zDp A 11 d
/-- the name is taken, or its fragment frozen -/
def zBz (A : ZA) (d n : Nat) : Prop := ¬ A.2 6 (50 * d + n) = -1 ∨ zfz A (zfn A d n) = true
/-- .. whether a name can be made: 0, or why not -/
def zNw (A : ZA) (c d n : Int32) (k : Nat) : Prop := zBad A c d n k ∨ ∃ c' d' n', zGd A c d n c' d' n' ∧ ((k = 3 ∧ zBz A d' n') ∨ (k = 0 ∧ ¬ zBz A d' n'))
def zLk (A : ZA) (c d n : Nat) : ZA := if A.1 1 < A.2 13 (600 * c + (50 * d + n)) then zsa A 15 c (A.2 15 c + nI 1) else zsa (zsa A 12 (zfn A d n) (A.2 12 (zfn A d n) + nI 1)) 13 (600 * c + (50 * d + n)) (A.1 1 + nI 10)
/-- the directory d begins, its fragment with the owner o: the first k hashes -/
def zBg (A : ZA) (d : Nat) (o : Int32) : Nat → ZA
  | 0 => zsa A 3 d (nI 1)
  | k + 1 => zsa (zsa (zsa (zBg A d o k) 10 (8 * d + k) (if k = 0 then nI 8 else nI 0)) 11 (8 * d + k) (if k = 0 then o else -1)) 12 (8 * d + k) (nI 0)
/-- a directory D is made -/
def zMk (A : ZA) (c d n D : Nat) : ZA := zBg (zsa (zsa (zsa (zCh (zsc A 2 (nI (D + 1))) (nI c) d n) 6 (50 * d + n) (-2 - nI D)) 4 D (nI d)) 5 D (nI n)) D (-1) 8
theorem zFr_sc {A : ZA} {k : Nat} {v : Int32} (h : zFr A) : zFr (zsc A k v) := h
def zLn (A : ZA) (a : Nat) (f : Int32) : ZA := zsc (zsa (zsa A 6 a f) 7 a (A.1 8)) 8 (A.1 8 + nI 1)
def zMf (A : ZA) (c d n F : Nat) : ZA := zsc (zLn (zCh A (nI c) d n) (50 * d + n) (nI F)) 9 (nI (F + 1))
theorem zEn_1 (A : ZA) (a : Nat) (ex : Int32) : ∀ k, (zEn A a ex k).1 = A.1
  | 0 => rfl
  | k + 1 => zEn_1 A a ex k
theorem zCh_1 (A : ZA) (c : Int32) (d n : Nat) : (zCh A c d n).1 = A.1 := zEn_1 _ _ _ _
