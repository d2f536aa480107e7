/-! calls on both sides: rename -/
section ZSM
variable {A B A' B' : ZA} {t D F T L : Nat}
theorem zRn_n (A : ZA) (c d n d2 n2 : Nat) {i : Nat} (h6 : i ≠ 6) (h7 : i ≠ 7) (h12 : i ≠ 12) (h13 : i ≠ 13) (h14 : i ≠ 14) : (zRn A c d n d2 n2).2 i = A.2 i := by
  unfold zRn
  rw [zsa_n _ _ _ _ _ h7, zsa_n _ _ _ _ _ h6, zsa_n _ _ _ _ _ h6, zCh_2 _ _ _ _ h12 h13 h14, zCh_2 _ _ _ _ h12 h13 h14]
theorem zRn_1 (A : ZA) (c d n d2 n2 : Nat) : (zRn A c d n d2 n2).1 = A.1 := by
  unfold zRn
  rw [zsa_1, zsa_1, zsa_1, zCh_1, zCh_1]
theorem zRn_6 (A : ZA) (c d n d2 n2 j : Nat) : (zRn A c d n d2 n2).2 6 j = if j = 50 * d2 + n2 then A.2 6 (50 * d + n) else if j = 50 * d + n then -1 else A.2 6 j := by
  unfold zRn
  rw [zsa_n _ _ _ _ _ (by decide), zsa_2]
  by_cases z : j = 50 * d2 + n2
  · rw [if_pos ⟨rfl, z⟩, if_pos z]
  · rw [if_neg (fun y => z y.2), if_neg z, zsa_2]
    by_cases z2 : j = 50 * d + n
    · rw [if_pos ⟨rfl, z2⟩, if_pos z2]
    · rw [if_neg (fun y => z2 y.2), if_neg z2, zCh_2 _ _ _ _ (by decide) (by decide) (by decide), zCh_2 _ _ _ _ (by decide) (by decide) (by decide)]
theorem zRn_7 (A : ZA) (c d n d2 n2 j : Nat) : (zRn A c d n d2 n2).2 7 j = if j = 50 * d2 + n2 then A.2 7 (50 * d + n) else A.2 7 j := by
  unfold zRn
  rw [zsa_2]
  by_cases z : j = 50 * d2 + n2
  · rw [if_pos ⟨rfl, z⟩, if_pos z]
  · rw [if_neg (fun y => z y.2), if_neg z, zsa_n _ _ _ _ _ (by decide), zsa_n _ _ _ _ _ (by decide), zCh_2 _ _ _ _ (by decide) (by decide) (by decide), zCh_2 _ _ _ _ (by decide) (by decide) (by decide)]
theorem zRn_p (hA : zAg A B) (hl : zLs A B) {c d n d2 n2 : Nat} (hd : d < 12) (hn : n < 50) (hv : A.2 3 d = 1) (hd2 : d2 < 12) (hn2 : n2 < 50) (hv2 : A.2 3 d2 = 1) (h0 : nI 0 ≤ A.1 1) (v g : Int32) (ev : v = A.2 6 (50 * d + n)) : zAg (zRn A c d n d2 n2) (zcn (zcn B (nI c) d n (-1) (nI 0)) (nI c) d2 n2 v g) ∧ zLs (zRn A c d n d2 n2) (zcn (zcn B (nI c) d n (-1) (nI 0)) (nI c) d2 n2 v g) := by
  have p1 := zCn hA hl hd hn hv (nI c) (-1) (nI 0) h0
  have p2 := zCn p1.1 p1.2 hd2 hn2 (by rw [zsa_n _ _ _ _ _ (by decide), zCh_2 _ _ _ _ (by decide) (by decide) (by decide)]; exact hv2) (nI c) v g (by rw [zsa_1, zCh_1]; exact h0)
  rw [zCh_6] at p2
  subst ev
  unfold zRn
  refine ⟨p2.1.l7 _ _, p2.2.cg rfl ?_ ?_ rfl⟩
  · rw [zsa_n _ _ _ _ _ (by decide)]
  · rw [zsa_n _ _ _ _ _ (by decide)]
/-- a link is renamed -/
theorem zRS.rn (hJ : zJ A t D F T L) (hA : zAg A B) (hl : zLs A B) (he : zAe A B L) (hu : zUm B D) (ht : t ≤ 600) {c d n d2 n2 f : Nat} (hd : d < 12) (hn : n < 50) (hv : A.2 3 d = 1) (hd2 : d2 < 12) (hn2 : n2 < 50) (hv2 : A.2 3 d2 = 1) (hs : A.2 6 (50 * d + n) = nI f) (hf : f < F) (hfr : A.2 6 (50 * d2 + n2) = -1) : zRS (zRn A c d n d2 n2) (zcn (zcn B (nI c) d n (-1) (nI 0)) (nI c) d2 n2 (nI f) (B.2 7 (50 * d + n))) (t + 1) := by
  have hF := hJ.fl
  have hf30 : f < 30 := by omega
  have p := zRn_p (c := c) hA hl hd hn hv hd2 hn2 hv2 (hJ.n0 ht) (nI f) (B.2 7 (50 * d + n)) hs.symm
  have h1 := zRn_1 A c d n d2 n2
  have hnn : ∀ i, i ≠ 6 → i ≠ 7 → i ≠ 12 → i ≠ 13 → i ≠ 14 → (zRn A c d n d2 n2).2 i = A.2 i := fun i a1 a2 a3 a4 a5 => zRn_n A c d n d2 n2 a1 a2 a3 a4 a5
  have q1 := zSt6 (A' := zsa A 6 (50 * d + n) (-1)) hJ.sn hJ.cv hd hn hv (fun e he e2 => by rw [hs] at e2; exact zfvd hf30 he e2) (Nat.le_refl F) (Or.inl rfl) (zsa_n _ _ _ _ _ (by decide)) (zsa_n _ _ _ _ _ (by decide)) (zsa_n _ _ _ _ _ (by decide)) (fun j => by
    rw [zsa_2]
    by_cases z : j = 50 * d + n
    · rw [if_pos ⟨rfl, z⟩, if_pos z]
    · rw [if_neg (fun y => z y.2), if_neg z])
  have e36 : ∀ i, i ≠ 6 → (zsa A 6 (50 * d + n) (-1)).2 i = A.2 i := fun i hi => zsa_n _ _ _ _ _ hi
  have q2 := zSt6 (A' := zRn A c d n d2 n2) q1.1 q1.2 hd2 hn2 (by rw [e36 3 (by decide)]; exact hv2) (fun e he e2 => by
    rw [zsa_2] at e2
    by_cases z : 50 * d2 + n2 = 50 * d + n
    · rw [if_pos ⟨rfl, z⟩] at e2
      exact (zdv e he).2.2 e2.symm
    · rw [if_neg (fun y => z y.2), hfr] at e2
      exact (zdv e he).2.2 e2.symm) (Nat.le_refl F) (Or.inr ⟨f, hf, hs⟩) (by rw [hnn 3 (by decide) (by decide) (by decide) (by decide) (by decide), e36 3 (by decide)]) (by rw [hnn 4 (by decide) (by decide) (by decide) (by decide) (by decide), e36 4 (by decide)]) (by rw [hnn 5 (by decide) (by decide) (by decide) (by decide) (by decide), e36 5 (by decide)]) (fun j => by
    rw [zRn_6, zsa_2]
    by_cases z : j = 50 * d2 + n2
    · rw [if_pos z, if_pos z]
    · rw [if_neg z, if_neg z]
      by_cases z2 : j = 50 * d + n
      · rw [if_pos z2, if_pos ⟨rfl, z2⟩]
      · rw [if_neg z2, if_neg (fun y => z2 y.2)])
  refine ⟨D, F, T, L, hJ.mk6 q2 (by rw [h1]) (by rw [h1]) (by rw [h1]; exact ⟨hJ.2.1.1, by have := hJ.2.1.2; omega⟩) (by rw [h1]; exact hJ.fl) (by rw [h1]) (by rw [h1]) (hnn 3 (by decide) (by decide) (by decide) (by decide) (by decide)) (hnn 4 (by decide) (by decide) (by decide) (by decide) (by decide)) (hnn 5 (by decide) (by decide) (by decide) (by decide) (by decide)) (hnn 10 (by decide) (by decide) (by decide) (by decide) (by decide)) (hnn 11 (by decide) (by decide) (by decide) (by decide) (by decide)), p.1, p.2, fun k f' k1 k2 k3 => ?_, (hu.cn (hJ.al hd hv) hn _ _ _).cn (hJ.al hd2 hv2) hn2 _ _ _⟩
  rw [zRn_6] at k3
  rw [zRn_7, zcn_7]
  by_cases z : k = 50 * d2 + n2
  · rw [if_pos z] at k3
    rw [if_pos z, if_pos z]
    exact he (50 * d + n) f' (by omega) k2 k3
  · rw [if_neg z] at k3
    rw [if_neg z, if_neg z, zcn_7]
    by_cases z2 : k = 50 * d + n
    · rw [if_pos z2] at k3
      exact absurd k3.symm (zfv2 k2)
    · rw [if_neg z2] at k3
      rw [if_neg z2]
      exact he k f' k1 k2 k3
theorem zRe_n (A : ZA) (c d n d2 n2 e : Nat) {i : Nat} (h4 : i ≠ 4) (h5 : i ≠ 5) : (zRe A c d n d2 n2 e).2 i = (zRn A c d n d2 n2).2 i := by
  unfold zRe
  rw [zsa_n _ _ _ _ _ h5, zsa_n _ _ _ _ _ h4]
theorem zRe_1 (A : ZA) (c d n d2 n2 e : Nat) : (zRe A c d n d2 n2 e).1 = A.1 := by
  unfold zRe
  rw [zsa_1, zsa_1, zRn_1]
theorem zRe_4 (A : ZA) (c d n d2 n2 e j : Nat) : (zRe A c d n d2 n2 e).2 4 j = if j = e then nI d2 else A.2 4 j := by
  unfold zRe
  rw [zsa_n _ _ _ _ _ (by decide), zsa_2]
  by_cases z : j = e
  · rw [if_pos ⟨rfl, z⟩, if_pos z]
  · rw [if_neg (fun y => z y.2), if_neg z, zRn_n _ _ _ _ _ _ (by decide) (by decide) (by decide) (by decide) (by decide)]
theorem zRe_5 (A : ZA) (c d n d2 n2 e j : Nat) : (zRe A c d n d2 n2 e).2 5 j = if j = e then nI n2 else A.2 5 j := by
  unfold zRe
  rw [zsa_2]
  by_cases z : j = e
  · rw [if_pos ⟨rfl, z⟩, if_pos z]
  · rw [if_neg (fun y => z y.2), if_neg z, zsa_n _ _ _ _ _ (by decide), zRn_n _ _ _ _ _ _ (by decide) (by decide) (by decide) (by decide) (by decide)]
theorem zJ.re (h : zJ A t D F T L) {c d n d2 n2 e : Nat} (hd : d < 12) (hn : n < 50) (hv : A.2 3 d = 1) (hd2 : d2 < 12) (hn2 : n2 < 50) (hv2 : A.2 3 d2 = 1) (he : e < 12) (he0 : ¬ e = 0) (hve : A.2 3 e = 1) (hpe : zpar A e = d) (hne : znam A e = n) (hs : A.2 6 (50 * d + n) = -2 - nI e) (hfr : A.2 6 (50 * d2 + n2) = -1) (hb : ¬ zblN A 11 d2 e = true) : zJ (zRe A c d n d2 n2 e) (t + 1) D F T L := by
  have h1 := zRe_1 A c d n d2 n2 e
  have h3 : (zRe A c d n d2 n2 e).2 3 = A.2 3 := by rw [zRe_n _ _ _ _ _ _ _ (by decide) (by decide), zRn_n _ _ _ _ _ _ (by decide) (by decide) (by decide) (by decide) (by decide)]
  have h4 := zRe_4 A c d n d2 n2 e
  have h5 := zRe_5 A c d n d2 n2 e
  have h6 : ∀ j, (zRe A c d n d2 n2 e).2 6 j = if j = 50 * d2 + n2 then -2 - nI e else if j = 50 * d + n then -1 else A.2 6 j := fun j => by rw [zRe_n _ _ _ _ _ _ _ (by decide) (by decide), zRn_6, hs]
  have h10 : (zRe A c d n d2 n2 e).2 10 = A.2 10 := by rw [zRe_n _ _ _ _ _ _ _ (by decide) (by decide), zRn_n _ _ _ _ _ _ (by decide) (by decide) (by decide) (by decide) (by decide)]
  have h11 : (zRe A c d n d2 n2 e).2 11 = A.2 11 := by rw [zRe_n _ _ _ _ _ _ _ (by decide) (by decide), zRn_n _ _ _ _ _ _ (by decide) (by decide) (by decide) (by decide) (by decide)]
  generalize zRe A c d n d2 n2 e = A' at h1 h3 h4 h5 h6 h10 h11
  have hpar : ∀ j, ¬ j = e → zpar A' j = zpar A j := fun j g => by unfold zpar; rw [h4, if_neg g]
  have hnam : ∀ j, ¬ j = e → znam A' j = znam A j := fun j g => by unfold znam; rw [h5, if_neg g]
  have hpE : zpar A' e = d2 := by unfold zpar; rw [h4, if_pos rfl]; exact nI_clamp (by omega)
  have hnE : znam A' e = n2 := by unfold znam; rw [h5, if_pos rfl]; exact nI_clamp (by omega)
  obtain ⟨j1, j2, j3, j4, j5, j6, j7, j8, j9, j10, j11⟩ := h
  have hup : ∀ j, ¬ j = e → zUp A j → zUp A' j := fun j z ⟨u1, u2, u3, u4, u5⟩ =>
    ⟨by rw [hpar j z, h4, if_neg z]; exact u1, by rw [hpar j z]; exact u2, by rw [hpar j z, h3]; exact u3, by rw [hnam j z, h5, if_neg z]; exact u4, by rw [hnam j z]; exact u5⟩
  have hup2 : ∀ k j, ¬ zblN A k j e = true → zDp A k j → zDp A' k j := fun k => by
    induction k with
    | zero => exact fun j _ g => g
    | succ k ih =>
      intro j b g
      rcases g with g | ⟨u, g⟩
      · exact Or.inl g
      · by_cases z0 : j = 0
        · exact Or.inl z0
        · rw [zblN] at b
          by_cases z : j = e
          · rw [if_pos (Or.inr z)] at b
            exact absurd (decide_eq_true z) b
          · rw [if_neg (fun y => y.elim z0 z)] at b
            refine Or.inr ⟨hup j z u, ?_⟩
            rw [hpar j z]
            exact ih _ b g
  have hE : zDp A' 12 e := by
    refine Or.inr ⟨⟨by rw [hpE, h4, if_pos rfl], by rw [hpE]; exact hd2, by rw [hpE, h3]; exact hv2, by rw [hnE, h5, if_pos rfl], by rw [hnE]; exact hn2⟩, ?_⟩
    rw [hpE]
    exact hup2 11 d2 hb (j6 d2 hd2 hv2)
  have hdp : ∀ k j, zDp A k j → ∃ K, zDp A' K j := fun k => by
    induction k with
    | zero => exact fun j g => ⟨0, g⟩
    | succ k ih =>
      intro j g
      by_cases z : j = e
      · rw [z]
        exact ⟨12, hE⟩
      · rcases g with g | ⟨u, g⟩
        · exact ⟨0, g⟩
        · obtain ⟨K, q⟩ := ih _ g
          refine ⟨K + 1, Or.inr ⟨hup j z u, ?_⟩⟩
          rw [hpar j z]
          exact q
  refine ⟨by rw [h1]; exact ⟨j1.1, by have := j1.2; omega⟩, by rw [h1]; exact ⟨j2.1, by have := j2.2; omega⟩, by rw [h1]; exact j3, by unfold zBas; rw [h1, h3]; exact j4, by unfold zFr; rw [h3, h10, h11]; exact j5, fun j g1 g2 => ?_, by unfold zDz; rw [h3, h10]; exact j7, by unfold zCf; rw [h3, h10]; exact j8, fun d' n' g1 g2 => ?_, fun j g1 g2 g3 => ?_, j11.cg (by rw [h1]) (by rw [h1]) h3 h10⟩
  · rw [h3] at g2
    obtain ⟨K, q⟩ := hdp 11 j (j6 j g1 g2)
    exact zDp_11 q g1
  · rw [h6, h3]
    by_cases z : 50 * d' + n' = 50 * d2 + n2
    · rw [if_pos z]
      have e1 : d' = d2 := by omega
      have e2 : n' = n2 := by omega
      subst e1; subst e2
      exact Or.inr ⟨hv2, Or.inr ⟨e, he, he0, hve, rfl, hpE, hnE⟩⟩
    · rw [if_neg z]
      by_cases z2 : 50 * d' + n' = 50 * d + n
      · rw [if_pos z2]
        exact Or.inl rfl
      · rw [if_neg z2]
        rcases j9 d' n' g1 g2 with g | ⟨g0, g | ⟨e', q1, q2, q3, q4, q5, q6⟩⟩
        · exact Or.inl g
        · exact Or.inr ⟨g0, Or.inl g⟩
        · have hne' : ¬ e' = e := fun y => by
            subst y
            exact z2 (by rw [← q5, ← q6, hpe, hne])
          exact Or.inr ⟨g0, Or.inr ⟨e', q1, q2, q3, q4, by rw [hpar e' hne']; exact q5, by rw [hnam e' hne']; exact q6⟩⟩
  · by_cases z : j = e
    · rw [z, hpE, hnE, h6, if_pos rfl]
    · rw [h3] at g3
      have g := j10 j g1 g2 g3
      rw [hpar j z, hnam j z, h6]
      by_cases y1 : 50 * zpar A j + znam A j = 50 * d2 + n2
      · rw [y1, hfr] at g
        exact absurd g.symm (zdv j g1).2.2
      · rw [if_neg y1]
        by_cases y2 : 50 * zpar A j + znam A j = 50 * d + n
        · rw [y2, hs] at g
          exact absurd (zdvi he g1 g).symm z
        · rw [if_neg y2]
          exact g
/-- a directory is renamed -/
theorem zRS.re (hJ : zJ A t D F T L) (hA : zAg A B) (hl : zLs A B) (he : zAe A B L) (hu : zUm B D) (ht : t ≤ 600) {c d n d2 n2 e : Nat} (hd : d < 12) (hn : n < 50) (hv : A.2 3 d = 1) (hd2 : d2 < 12) (hn2 : n2 < 50) (hv2 : A.2 3 d2 = 1) (he12 : e < 12) (hs : A.2 6 (50 * d + n) = -2 - nI e) (g : Int32) (hJ' : zJ (zRe A c d n d2 n2 e) (t + 1) D F T L) : zRS (zRe A c d n d2 n2 e) (zsa (zsa (zcn (zcn B (nI c) d n (-1) (nI 0)) (nI c) d2 n2 (-2 - nI e) g) 4 e (nI d2)) 5 e (nI n2)) (t + 1) := by
  have p := zRn_p (c := c) hA hl hd hn hv hd2 hn2 hv2 (hJ.n0 ht) (-2 - nI e) g hs.symm
  refine ⟨D, F, T, L, hJ', (p.1.sa 4 _ _).sa 5 _ _, p.2.cg rfl ?_ ?_ ?_, fun k f' k1 k2 k3 => ?_, ?_⟩
  · rw [zRe_n _ _ _ _ _ _ _ (by decide) (by decide)]
  · rw [zRe_n _ _ _ _ _ _ _ (by decide) (by decide)]
  · rw [zsa_n _ _ _ _ _ (by decide), zsa_n _ _ _ _ _ (by decide)]
  · rw [zRe_n _ _ _ _ _ _ _ (by decide) (by decide), zRn_6] at k3
    rw [zRe_n _ _ _ _ _ _ _ (by decide) (by decide), zRn_7, zsa_n _ _ _ _ _ (by decide), zsa_n _ _ _ _ _ (by decide), zcn_7]
    by_cases z : k = 50 * d2 + n2
    · rw [if_pos z, hs] at k3
      exact absurd k3.symm (zfvd k2 he12)
    · rw [if_neg z] at k3
      rw [if_neg z, if_neg z, zcn_7]
      by_cases z2 : k = 50 * d + n
      · rw [if_pos z2] at k3
        exact absurd k3.symm (zfv2 k2)
      · rw [if_neg z2] at k3
        rw [if_neg z2]
        exact he k f' k1 k2 k3
  · have u1 := (hu.cn (hJ.al hd hv) hn (nI c) (-1) (nI 0)).cn (hJ.al hd2 hv2) hn2 (nI c) (-2 - nI e) g
    exact u1.cg (by rw [zsa_n _ _ _ _ _ (by decide), zsa_n _ _ _ _ _ (by decide)]) (by rw [zsa_n _ _ _ _ _ (by decide), zsa_n _ _ _ _ _ (by decide)]) (by rw [zsa_n _ _ _ _ _ (by decide), zsa_n _ _ _ _ _ (by decide)])
theorem zcn2_val {c1 c2 m1 m2 g1 g2 : Int32} {d n d2 n2 : Nat} {i j : Nat} (h : zVal (zcn (zcn B c1 d n m1 g1) c2 d2 n2 m2 g2) i j) : zVal B i j := zcn_val.mp (zcn_val.mp h)
end ZSM
