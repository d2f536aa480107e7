theorem zEn_2 (A : ZA) (a : Nat) (ex : Int32) {i : Nat} (h1 : i ≠ 13) (h2 : i ≠ 14) : ∀ k, (zEn A a ex k).2 i = A.2 i
  | 0 => rfl
  | k + 1 => by
    show (zsa (zsa _ 14 k _) 13 _ _).2 i = _
    rw [zsa_n _ _ _ _ _ h1, zsa_n _ _ _ _ _ h2]
    exact zEn_2 A a ex h1 h2 k
theorem zCh_2 (A : ZA) (c : Int32) (d n : Nat) {i : Nat} (h0 : i ≠ 12) (h1 : i ≠ 13) (h2 : i ≠ 14) : (zCh A c d n).2 i = A.2 i := by
  unfold zCh
  rw [zEn_2 _ _ _ h1 h2, zsa_n _ _ _ _ _ h0]
theorem zCh_f0 {A : ZA} {c : Int32} {d n e : Nat} (hF : zFr A) (he : e < 12) (hl : A.2 3 e = 1) : ¬ (zCh A c d n).2 10 (8 * e) = 0 := by
  rw [zCh_2 _ _ _ _ (by decide) (by decide) (by decide)]
  exact hF.1 e he hl
