/-! calls on both sides: what is only asked, time, and moves -/
section ZSF
variable {A B : ZA} {t D F T L : Nat}
theorem zBad_c {c d n : Int32} {k : Nat} (h : zBad A c d n k) : (k = 0 + 1 ∧ zen k = zIAE) ∨ (k = 1 + 1 ∧ zen k = zIOB) := by
  rcases h with ⟨rfl, -⟩ | ⟨rfl, -⟩
  · exact Or.inl ⟨rfl, rfl⟩
  · exact Or.inr ⟨rfl, rfl⟩
theorem zBh_c {l : Nat} {d n : Int32} {k : Nat} (h : zBh A l d n k) : (k = 0 + 1 ∧ zen k = zIAE) ∨ (k = 1 + 1 ∧ zen k = zIOB) := by
  rcases h with ⟨rfl, -⟩ | ⟨rfl, -⟩
  · exact Or.inl ⟨rfl, rfl⟩
  · exact Or.inr ⟨rfl, rfl⟩
/-- refused for an argument, or for a directory -/
theorem zSim.kn {y2 y3 : ZY} {As : List Value} {r : Int32 → Option Value} {f : List String} {k : Nat} (hk : (k = 0 + 1 ∧ zen k = zIAE) ∨ (k = 1 + 1 ∧ zen k = zIOB)) (h : zRS A B t) (hf : f[0]? = some zIAE ∧ f[1]? = some zIOB) (v : Int32) (h2 : ∀ (G : ZG) (M : ZM) (W : Nat → Nat → Nat), zC M W B → zMet G y2 (.ref (W 10 0) :: As) M (zthr (zen k) M)) (h3 : ∀ (G : ZG) (M : ZM) (x : Nat) (q : Nat → Nat) (w : Int32), zR M x q w A → zMet G y3 (.ref x :: As) M (zRP x q M (r v) (nI k) A)) : zSim y2 y3 As A B t r f := by
  rcases hk with ⟨rfl, e⟩ | ⟨rfl, e⟩
  · rw [e] at h2
    exact zSim.no 0 zIAE v h hf.1 h2 h3
  · rw [e] at h2
    exact zSim.no 1 zIOB v h hf.2 h2 h3
theorem zJ.fl (h : zJ A t D F T L) : A.1 9 = nI F ∧ F ≤ 30 := h.2.2.1
theorem zLs.le (h : zLs A B) {A' B' : ZA} (h1 : A.1 1 ≤ A'.1 1) (h3 : A'.2 3 = A.2 3) (ha : A'.2 13 = A.2 13) (hb : B'.2 13 = B.2 13) : zLs A' B' := by
  intro c d n k1 k2 k3
  have g := h c d n k1 k2 k3
  rw [h3, ha, hb]
  exact ⟨fun z => (g.1 z).imp id (fun y => ⟨Int32.le_trans y.1 h1, Int32.le_trans y.2 h1⟩), fun z => Int32.le_trans (g.2 z) h1⟩
theorem zJ.lookup (hA : zAg A B) (hl : zLs A B) {c d n : Nat} (hc : c < 4) (hd : d < 12) (hn : n < 50) (hv : A.2 3 d = 1) : zAg (zLk A c d n) (zLk B c d n) ∧ zLs (zLk A c d n) (zLk B c d n) := by
  have hr := hl.run hc hd hn hv
  unfold zLk
  rw [hA.1]
  by_cases h1 : A.1 1 < A.2 13 (600 * c + (50 * d + n))
  · rw [if_pos h1, if_pos (hr.mpr h1), hA.k 15 (by decide)]
    exact ⟨hA.sa _ _ _, hl.cg rfl (zsa_n _ _ _ _ _ (by decide)) (zsa_n _ _ _ _ _ (by decide)) (zsa_n _ _ _ _ _ (by decide))⟩
  · rw [if_neg h1, if_neg (fun z => h1 (hr.mp z)), hA.fn, hA.k 12 (by decide)]
    have g : zLs (zsa A 12 (zfn A d n) (A.2 12 (zfn A d n) + nI 1)) (zsa B 12 (zfn A d n) (A.2 12 (zfn A d n) + nI 1)) := hl.cg rfl (zsa_n _ _ _ _ _ (by decide)) (zsa_n _ _ _ _ _ (by decide)) (zsa_n _ _ _ _ _ (by decide))
    refine ⟨(hA.sa 12 _ _).sa 13 _ _, g.set (Or.inl rfl) (fun c' d' n' _ h2 h3 e => ?_)⟩
    rw [zsa_n _ _ _ _ _ (by decide), (zdj h2 h3 hd hn e).2.1]
    exact hv
theorem zLk_1 (A : ZA) (c d n : Nat) : (zLk A c d n).1 = A.1 := by
  unfold zLk
  split <;> rfl
theorem zLk_2 (A : ZA) (c d n : Nat) {i : Nat} (h1 : i ≠ 12) (h2 : i ≠ 13) (h3 : i ≠ 15) : (zLk A c d n).2 i = A.2 i := by
  unfold zLk
  split
  · rw [zsa_n _ _ _ _ _ h3]
  · rw [zsa_n _ _ _ _ _ h2, zsa_n _ _ _ _ _ h1]
theorem zLk_13 (A : ZA) (c d n : Nat) {j : Nat} (h : j ≠ 600 * c + (50 * d + n)) : (zLk A c d n).2 13 j = A.2 13 j := by
  unfold zLk
  split
  · rw [zsa_n _ _ _ _ _ (by decide)]
  · rw [zsa_2, if_neg (fun z => h z.2), zsa_n _ _ _ _ _ (by decide)]
end ZSF
