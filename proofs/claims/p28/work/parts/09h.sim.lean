/-! calls on both sides: fragments -/
section ZSH
variable {A B A' B' : ZA} {t D F T L : Nat}
theorem zHc.cg {S S' : Nat → Int32} {d : Nat} {c : List Nat} (hc : zHc S d c) (h : ∀ y, y < 8 → S' (8 * d + y) = S (8 * d + y)) : zHc S' d c := ⟨hc.1, fun y hy => by rw [h y hy]; exact hc.2 y hy⟩
/-- where the fragments alone change -/
theorem zJ.mkf (h : zJ A t D F T L) (h1 : A'.1 = A.1) (h3 : A'.2 3 = A.2 3) (h4 : A'.2 4 = A.2 4) (h5 : A'.2 5 = A.2 5) (h6 : A'.2 6 = A.2 6) (hF : zFr A') (hz : zDz A') (hc : zCf A') (hm : zMm A') : zJ A' (t + 1) D F T L := by
  obtain ⟨j1, j2, j3, j4, j5, j6, j7, j8, j9, j10, j11⟩ := h
  refine ⟨by rw [h1]; exact ⟨j1.1, by have := j1.2; omega⟩, by rw [h1]; exact ⟨j2.1, by have := j2.2; omega⟩, by rw [h1]; exact j3, by unfold zBas; rw [h1, h3]; exact j4, hF, fun d g1 g2 => (zDp.cg h3 h4 h5 11 d).mpr (j6 d g1 (by rw [← h3]; exact g2)), hz, hc, ?_, ?_, hm⟩
  · intro d n g1 g2
    have g := j9 d n g1 g2
    rw [h6, h3]
    rcases g with g | ⟨g0, g | ⟨e, q1, q2, q3, q4, q5, q6⟩⟩
    · exact Or.inl g
    · exact Or.inr ⟨g0, Or.inl g⟩
    · exact Or.inr ⟨g0, Or.inr ⟨e, q1, q2, q3, q4, (zpar.cg h4 e).trans q5, (znam.cg h5 e).trans q6⟩⟩
  · intro e g1 g2 g3
    rw [h6, zpar.cg h4, znam.cg h5]
    exact j10 e g1 g2 (by rw [← h3]; exact g3)
theorem zSp_n (A : ZA) (f s : Nat) {i : Nat} (h10 : i ≠ 10) (h11 : i ≠ 11) (h12 : i ≠ 12) : (zSp A f s).2 i = A.2 i := by
  unfold zSp
  rw [zsa_n _ _ _ _ _ h12, zsa_n _ _ _ _ _ h12, zsa_n _ _ _ _ _ h11, zsa_n _ _ _ _ _ h10, zsa_n _ _ _ _ _ h10]
theorem zSp_10 (A : ZA) (f s j : Nat) : (zSp A f s).2 10 j = if j = f + s / 2 then nI (s / 2) else if j = f then nI (s / 2) else A.2 10 j := by
  unfold zSp
  rw [zsa_n _ _ _ _ _ (by decide), zsa_n _ _ _ _ _ (by decide), zsa_n _ _ _ _ _ (by decide), zsa_2, zsa_2]
  by_cases h1 : j = f + s / 2
  · rw [if_pos ⟨rfl, h1⟩, if_pos h1]
  · rw [if_neg (fun z => h1 z.2), if_neg h1]
    by_cases h2 : j = f
    · rw [if_pos ⟨rfl, h2⟩, if_pos h2]
    · rw [if_neg (fun z => h2 z.2), if_neg h2]
theorem zSp_11 (A : ZA) (f s j : Nat) : (zSp A f s).2 11 j = if j = f + s / 2 then A.2 11 f else A.2 11 j := by
  unfold zSp
  rw [zsa_n _ _ _ _ _ (by decide), zsa_n _ _ _ _ _ (by decide), zsa_2]
  by_cases h1 : j = f + s / 2
  · rw [if_pos ⟨rfl, h1⟩, if_pos h1]
  · rw [if_neg (fun z => h1 z.2), if_neg h1, zsa_n _ _ _ _ _ (by decide), zsa_n _ _ _ _ _ (by decide)]
theorem zAg.sp (hA : zAg A B) (f s : Nat) : zAg (zSp A f s) (zSp B f s) := by
  unfold zSp
  rw [hA.k 11 (by decide), hA.k 12 (by decide)]
  exact ((((hA.sa 10 _ _).sa 10 _ _).sa 11 _ _).sa 12 _ _).sa 12 _ _
theorem zJ.fr (h : zJ A t D F T L) : zFr A := h.2.2.2.2.1
theorem zJ.sp (h : zJ A t D F T L) {d g s : Nat} {c : List Nat} (hd : d < 12) (hv : A.2 3 d = 1) (hc : zHc (A.2 10) d c) (es : A.2 10 (8 * d + g) = nI s) (s2 : g + s ≤ 8) (s4 : 1 ≤ s / 2) (s6 : zcS c g s ∈ zcfs) : zJ (zSp A (8 * d + g) s) (t + 1) D F T L := by
  have hc' := hc.sp (A := A) (g := g) (s := s) (by omega) (by omega) s6
  have ez : ¬ A.2 10 (8 * d + g) = 0 := by rw [es]; exact nI_ne0 (by omega) (by omega)
  have ez2 : ¬ nI (s / 2) = 0 := nI_ne0 (by omega) (by omega)
  have e3 := zSp_n A (8 * d + g) s (i := 3) (by decide) (by decide) (by decide)
  have hot : ∀ e y, y < 8 → ¬ e = d → (zSp A (8 * d + g) s).2 10 (8 * e + y) = A.2 10 (8 * e + y) := fun e y hy hne => by rw [zSp_10, if_neg (by omega), if_neg (by omega)]
  refine h.mkf rfl e3 (zSp_n A _ _ (by decide) (by decide) (by decide)) (zSp_n A _ _ (by decide) (by decide) (by decide)) (zSp_n A _ _ (by decide) (by decide) (by decide)) ⟨fun e h1 h2 => ?_, fun y h1 h2 => ?_⟩ (fun f h1 h2 => ?_) (fun e h1 h2 => ?_) ?_
  · rw [e3] at h2
    by_cases hne : e = d
    · subst hne
      exact fun z => (zcf_a _ s6).2 ((hc'.z (h := 0) (by decide)).mp z)
    · have := hot e 0 (by decide) hne
      rw [Nat.add_zero] at this
      rw [this]
      exact h.fr.1 e h1 h2
  · rw [zSp_11]
    rw [zSp_10] at h2
    by_cases q1 : y = 8 * d + g + s / 2
    · rw [if_pos q1]
      exact h.fr.2 _ (by omega) ez
    · rw [if_neg q1]
      rw [if_neg q1] at h2
      by_cases q2 : y = 8 * d + g
      · rw [q2]
        exact h.fr.2 _ (by omega) ez
      · rw [if_neg q2] at h2
        exact h.fr.2 y h1 h2
  · rw [e3]
    rw [zSp_10] at h2
    by_cases q1 : f = 8 * d + g + s / 2
    · rw [show f / 8 = d by omega]
      exact hv
    · by_cases q2 : f = 8 * d + g
      · rw [show f / 8 = d by omega]
        exact hv
      · rw [if_neg q1, if_neg q2] at h2
        exact h.dz f h1 h2
  · rw [e3] at h2
    by_cases hne : e = d
    · subst hne
      exact ⟨_, hc'⟩
    · obtain ⟨c2, hc2⟩ := h.cf e h1 h2
      exact ⟨c2, hc2.cg (fun y hy => hot e y hy hne)⟩
  · rcases h.mm with q | ⟨m, q1, q2, q3, q4, q5⟩
    · exact Or.inl q
    · refine Or.inr ⟨m, q1, q2, by rw [e3]; exact q3, ?_, q5⟩
      rw [zSp_10]
      split
      · exact ez2
      · split
        · exact ez2
        · exact q4
theorem zMg_n (A : ZA) (f s : Nat) {i : Nat} (h10 : i ≠ 10) (h12 : i ≠ 12) : (zMg A f s).2 i = A.2 i := by
  unfold zMg
  rw [zsa_n _ _ _ _ _ h12, zsa_n _ _ _ _ _ h10, zsa_n _ _ _ _ _ h10]
theorem zMg_10 (A : ZA) (f s j : Nat) : (zMg A f s).2 10 j = if j = f + s then nI 0 else if j = f then nI (2 * s) else A.2 10 j := by
  unfold zMg
  rw [zsa_n _ _ _ _ _ (by decide), zsa_2, zsa_2]
  by_cases h1 : j = f + s
  · rw [if_pos ⟨rfl, h1⟩, if_pos h1]
  · rw [if_neg (fun z => h1 z.2), if_neg h1]
    by_cases h2 : j = f
    · rw [if_pos ⟨rfl, h2⟩, if_pos h2]
    · rw [if_neg (fun z => h2 z.2), if_neg h2]
theorem zAg.mg (hA : zAg A B) (f s : Nat) : zAg (zMg A f s) (zMg B f s) := by
  unfold zMg
  rw [hA.k 12 (by decide)]
  exact ((hA.sa 10 _ _).sa 10 _ _).sa 12 _ _
theorem zJ.mg (h : zJ A t D F T L) {d g s : Nat} {c : List Nat} (hd : d < 12) (hv : A.2 3 d = 1) (hc : zHc (A.2 10) d c) (es : A.2 10 (8 * d + g) = nI s) (s1 : 1 ≤ s) (s2 : g + s + s ≤ 8) (hz : ¬ zfz A (8 * d + g + s) = true) (s6 : zcM c g s ∈ zcfs) : zJ (zMg A (8 * d + g) s) (t + 1) D F T L := by
  have hc' := hc.mg (A := A) (g := g) (s := s) (by omega) (by omega) s6
  have ez : ¬ A.2 10 (8 * d + g) = 0 := by rw [es]; exact nI_ne0 (by omega) (by omega)
  have ez2 : ¬ nI (2 * s) = 0 := nI_ne0 (by omega) (by omega)
  have e3 := zMg_n A (8 * d + g) s (i := 3) (by decide) (by decide)
  have hot : ∀ e y, y < 8 → ¬ e = d → (zMg A (8 * d + g) s).2 10 (8 * e + y) = A.2 10 (8 * e + y) := fun e y hy hne => by rw [zMg_10, if_neg (by omega), if_neg (by omega)]
  refine h.mkf rfl e3 (zMg_n A _ _ (by decide) (by decide)) (zMg_n A _ _ (by decide) (by decide)) (zMg_n A _ _ (by decide) (by decide)) ⟨fun e h1 h2 => ?_, fun y h1 h2 => ?_⟩ (fun f h1 h2 => ?_) (fun e h1 h2 => ?_) ?_
  · rw [e3] at h2
    by_cases hne : e = d
    · subst hne
      exact fun z => (zcf_a _ s6).2 ((hc'.z (h := 0) (by decide)).mp z)
    · have := hot e 0 (by decide) hne
      rw [Nat.add_zero] at this
      rw [this]
      exact h.fr.1 e h1 h2
  · rw [zMg_n A _ _ (by decide) (by decide)]
    rw [zMg_10] at h2
    by_cases q1 : y = 8 * d + g + s
    · rw [if_pos q1] at h2
      exact absurd rfl h2
    · rw [if_neg q1] at h2
      by_cases q2 : y = 8 * d + g
      · rw [q2]
        exact h.fr.2 _ (by omega) ez
      · rw [if_neg q2] at h2
        exact h.fr.2 y h1 h2
  · rw [e3]
    rw [zMg_10] at h2
    by_cases q1 : f = 8 * d + g + s
    · rw [show f / 8 = d by omega]
      exact hv
    · by_cases q2 : f = 8 * d + g
      · rw [show f / 8 = d by omega]
        exact hv
      · rw [if_neg q1, if_neg q2] at h2
        exact h.dz f h1 h2
  · rw [e3] at h2
    by_cases hne : e = d
    · subst hne
      exact ⟨_, hc'⟩
    · obtain ⟨c2, hc2⟩ := h.cf e h1 h2
      exact ⟨c2, hc2.cg (fun y hy => hot e y hy hne)⟩
  · rcases h.mm with q | ⟨m, q1, q2, q3, q4, q5⟩
    · exact Or.inl q
    · refine Or.inr ⟨m, q1, q2, by rw [e3]; exact q3, ?_, q5⟩
      rw [zMg_10]
      split
      · rename_i e
        rw [← e] at hz
        exact absurd (zfzN_at (by rw [q2]; exact nI_ne1 (by omega)) q2.symm 11) hz
      · split
        · exact ez2
        · exact q4
end ZSH
