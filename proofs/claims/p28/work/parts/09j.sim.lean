/-! calls on both sides: links to files -/
section ZSJ
variable {A B A' B' : ZA} {t D F T L : Nat}
/-- a name that stands for no directory changes to nothing or a file -/
theorem zSt6 (hs : zSn A F) (hc : zCv A) {d n : Nat} (hd : d < 12) (hn : n < 50) (hv : A.2 3 d = 1) (hold : ∀ e, e < 12 → ¬ A.2 6 (50 * d + n) = -2 - nI e) {v : Int32} {F' : Nat} (hF : F ≤ F') (hv6 : v = -1 ∨ ∃ f, f < F' ∧ v = nI f) (h3 : A'.2 3 = A.2 3) (h4 : A'.2 4 = A.2 4) (h5 : A'.2 5 = A.2 5) (h6 : ∀ j, A'.2 6 j = if j = 50 * d + n then v else A.2 6 j) : zSn A' F' ∧ zCv A' := by
  refine ⟨fun d' n' h1 h2 => ?_, fun e h1 h2 h3' => ?_⟩
  · rw [h6, h3]
    by_cases e : 50 * d' + n' = 50 * d + n
    · rw [if_pos e]
      have e1 : d' = d := by omega
      subst e1
      rcases hv6 with q | ⟨f, f1, f2⟩
      · exact Or.inl q
      · exact Or.inr ⟨hv, Or.inl ⟨f, f1, f2⟩⟩
    · rw [if_neg e]
      rcases hs d' n' h1 h2 with g | ⟨g0, ⟨f, g1, g2⟩ | ⟨e', q1, q2, q3, q4, q5, q6⟩⟩
      · exact Or.inl g
      · exact Or.inr ⟨g0, Or.inl ⟨f, by omega, g2⟩⟩
      · exact Or.inr ⟨g0, Or.inr ⟨e', q1, q2, q3, q4, (zpar.cg h4 e').trans q5, (znam.cg h5 e').trans q6⟩⟩
  · rw [zpar.cg h4, znam.cg h5, h6]
    rw [h3] at h3'
    have g := hc e h1 h2 h3'
    by_cases e0 : 50 * zpar A e + znam A e = 50 * d + n
    · rw [e0] at g
      exact absurd g (hold e h1)
    · rw [if_neg e0]
      exact g
theorem zJ.mk6 (h : zJ A t D F T L) {F' L' : Nat} (hs : zSn A' F' ∧ zCv A') (h2 : A'.1 2 = A.1 2) (h1 : A'.1 1 = A.1 1) (h8 : A'.1 8 = nI L' ∧ L' ≤ t + 1) (h9 : A'.1 9 = nI F' ∧ F' ≤ 30) (h16 : A'.1 16 = A.1 16) (h17 : A'.1 17 = A.1 17) (h3 : A'.2 3 = A.2 3) (h4 : A'.2 4 = A.2 4) (h5 : A'.2 5 = A.2 5) (h10 : A'.2 10 = A.2 10) (h11 : A'.2 11 = A.2 11) : zJ A' (t + 1) D F' T L' := by
  obtain ⟨j1, j2, j3, j4, j5, j6, j7, j8, j9, j10, j11⟩ := h
  exact ⟨by rw [h1]; exact ⟨j1.1, by have := j1.2; omega⟩, h8, h9, by unfold zBas; rw [h2, h3]; exact j4, by unfold zFr; rw [h3, h10, h11]; exact j5, fun d g1 g2 => (zDp.cg h3 h4 h5 11 d).mpr (j6 d g1 (by rw [← h3]; exact g2)), by unfold zDz; rw [h3, h10]; exact j7, by unfold zCf; rw [h3, h10]; exact j8, hs.1, hs.2, j11.cg h16 h17 h3 h10⟩
theorem zLn_2 (A : ZA) (a : Nat) (f : Int32) {i : Nat} (h6 : i ≠ 6) (h7 : i ≠ 7) : (zLn A a f).2 i = A.2 i := by
  unfold zLn
  rw [zsc_2, zsa_n _ _ _ _ _ h7, zsa_n _ _ _ _ _ h6]
theorem zLn_6 (A : ZA) (a : Nat) (f : Int32) (j : Nat) : (zLn A a f).2 6 j = if j = a then f else A.2 6 j := by
  unfold zLn
  rw [zsc_2, zsa_n _ _ _ _ _ (by decide), zsa_2]
  by_cases e : j = a
  · rw [if_pos ⟨rfl, e⟩, if_pos e]
  · rw [if_neg (fun z => e z.2), if_neg e]
theorem zLn_7 (A : ZA) (a : Nat) (f : Int32) (j : Nat) : (zLn A a f).2 7 j = if j = a then A.1 8 else A.2 7 j := by
  unfold zLn
  rw [zsc_2, zsa_2]
  by_cases e : j = a
  · rw [if_pos ⟨rfl, e⟩, if_pos e]
  · rw [if_neg (fun z => e z.2), if_neg e, zsa_n _ _ _ _ _ (by decide)]
theorem zLn_1 (A : ZA) (a : Nat) (f : Int32) (k : Nat) : (zLn A a f).1 k = if k = 8 then A.1 8 + nI 1 else A.1 k := rfl
theorem zLi_9 (A : ZA) (c d n : Nat) (f v : Int32) : zLi (zsc A 9 v) c d n f = zsc (zLi A c d n f) 9 v := by
  unfold zLi zLn
  rw [zCh_sc _ _ _ _ (by decide), zsc_1, if_neg (by decide), zsa_sc, zsa_sc, zsc_cm _ (by decide)]
theorem zRS.lk (hJ : zJ A t D F T L) (hA : zAg A B) (hl : zLs A B) (he : zAe A B L) (hu : zUm B D) (ht : t ≤ 600) {c d n f : Nat} (hd : d < 12) (hn : n < 50) (hv : A.2 3 d = 1) (hfree : A.2 6 (50 * d + n) = -1) (hf : f < F) : zRS (zLi A c d n (nI f)) (zcl1 B (nI c) d n (nI f)) (t + 1) := by
  have hL := hJ.2.1
  have hF := hJ.fl
  have e1 : (zCh A (nI c) d n).1 = A.1 := zCh_1 _ _ _ _
  have ci : ∀ i, i ≠ 6 → i ≠ 7 → i ≠ 12 → i ≠ 13 → i ≠ 14 → (zLi A c d n (nI f)).2 i = A.2 i := fun i h6 h7 h12 h13 h14 => by
    unfold zLi
    rw [zLn_2 _ _ _ h6 h7, zCh_2 _ _ _ _ h12 h13 h14]
  have c6 : ∀ j, (zLi A c d n (nI f)).2 6 j = if j = 50 * d + n then nI f else A.2 6 j := fun j => by
    unfold zLi
    rw [zLn_6, zCh_2 _ _ _ _ (by decide) (by decide) (by decide)]
  have c7 : ∀ j, (zLi A c d n (nI f)).2 7 j = if j = 50 * d + n then A.1 8 else A.2 7 j := fun j => by
    unfold zLi
    rw [zLn_7, zCh_2 _ _ _ _ (by decide) (by decide) (by decide), e1]
  have c1 : ∀ k, (zLi A c d n (nI f)).1 k = if k = 8 then A.1 8 + nI 1 else A.1 k := fun k => by
    unfold zLi
    rw [zLn_1, e1]
  have hs := zSt6 (A' := zLi A c d n (nI f)) hJ.sn hJ.2.2.2.2.2.2.2.2.2.1 hd hn hv (fun e he e2 => by rw [hfree] at e2; exact (zdv e he).2.2 e2.symm) (Nat.le_refl F) (Or.inr ⟨f, hf, rfl⟩) (ci 3 (by decide) (by decide) (by decide) (by decide) (by decide)) (ci 4 (by decide) (by decide) (by decide) (by decide) (by decide)) (ci 5 (by decide) (by decide) (by decide) (by decide) (by decide)) c6
  have g := zCn (hA.sc 8 (A.1 8 + nI 1)) (hl.cg (A' := zsc A 8 (A.1 8 + nI 1)) (B' := zsc B 8 (A.1 8 + nI 1)) rfl rfl rfl rfl) hd hn hv (nI c) (nI f) (A.1 8 + nI 1) (hJ.n0 ht)
  have eB : zcl1 B (nI c) d n (nI f) = zcn (zsc B 8 (A.1 8 + nI 1)) (nI c) d n (nI f) (A.1 8 + nI 1) := by
    unfold zcl1
    rw [hA.1]
  rw [eB]
  refine ⟨D, F, T, L + 1, hJ.mk6 hs (c1 2) (c1 1) ⟨by rw [c1, if_pos rfl, hL.1, nI_add], by omega⟩ ⟨by rw [c1, if_neg (by decide)]; exact hF.1, hF.2⟩ (c1 16) (c1 17) (ci 3 (by decide) (by decide) (by decide) (by decide) (by decide)) (ci 4 (by decide) (by decide) (by decide) (by decide) (by decide)) (ci 5 (by decide) (by decide) (by decide) (by decide) (by decide)) (ci 10 (by decide) (by decide) (by decide) (by decide) (by decide)) (ci 11 (by decide) (by decide) (by decide) (by decide) (by decide)), ?_, ?_, fun k f' h1 h2 h3 => ?_, ?_⟩
  · have g1 := g.1
    rw [zCh_sc _ _ _ _ (by decide), zsa_sc] at g1
    unfold zLi zLn
    rw [e1]
    exact ((zAg.l7 (zAg.rf (A := zsa (zCh A (nI c) d n) 6 (50 * d + n) (nI f))) (50 * d + n) (A.1 8)).sc 8 _).tr g1
  · have g2 := g.2
    rw [zCh_sc _ _ _ _ (by decide), zsa_sc] at g2
    refine g2.cg ?_ ?_ ?_ rfl
    · rw [c1, if_neg (by decide), zsc_1, if_neg (by decide), zsa_1, e1]
    · rw [ci 3 (by decide) (by decide) (by decide) (by decide) (by decide), zsc_2, zsa_n _ _ _ _ _ (by decide), zCh_2 _ _ _ _ (by decide) (by decide) (by decide)]
    · unfold zLi
      rw [zLn_2 _ _ _ (by decide) (by decide), zsc_2, zsa_n _ _ _ _ _ (by decide)]
  · rw [c6] at h3
    rw [c7, zcn_7]
    by_cases e : k = 50 * d + n
    · rw [if_pos e, if_pos e]
      exact ⟨L, by omega, hL.1, by rw [hL.1, nI_add]⟩
    · rw [if_neg e] at h3
      rw [if_neg e, if_neg e]
      obtain ⟨a, a1, a2, a3⟩ := he k f' h1 h2 h3
      exact ⟨a, by omega, a2, a3⟩
  · have u1 : zUm (zsc B 8 (A.1 8 + nI 1)) D := hu.cg rfl rfl rfl
    exact u1.cn (hJ.al hd hv) hn (nI c) (nI f) (A.1 8 + nI 1)
theorem zcl1_val {B : ZA} {c : Int32} {d n : Nat} {f : Int32} : ∀ i j, zVal (zcl1 B c d n f) i j → zVal B i j := fun i j hv => by
  unfold zcl1 at hv
  exact zVal.sc ((zcn_val (B := zsc B 8 (B.1 8 + nI 1)) (c := c) (d := d) (n := n) (m := f) (g := B.1 8 + nI 1)).mp hv)
theorem zJ.f1 (h : zJ A t D F T L) (hF : F < 30) : zJ (zsc A 9 (nI (F + 1))) t D (F + 1) T L := by
  obtain ⟨j1, j2, j3, j4, j5, j6, j7, j8, j9, j10, j11⟩ := h
  refine ⟨j1, j2, ⟨rfl, by omega⟩, j4, j5, fun d g1 g2 => (zDp.cg rfl rfl rfl 11 d).mpr (j6 d g1 g2), j7, j8, fun d n h1 h2 => ?_, j10, j11⟩
  rcases j9 d n h1 h2 with g | ⟨g0, ⟨f, g1, g2⟩ | g⟩
  · exact Or.inl g
  · exact Or.inr ⟨g0, Or.inl ⟨f, by omega, g2⟩⟩
  · exact Or.inr ⟨g0, Or.inr g⟩
end ZSJ
