/-! calls on both sides: makeDirectory -/
section ZSK
variable {A B A' B' : ZA} {t D F T L : Nat}
theorem zsa_cm' (A : ZA) {i i' j j' : Nat} (hi : ¬ (i = i' ∧ j = j')) (v v' : Int32) : zsa (zsa A i j v) i' j' v' = zsa (zsa A i' j' v') i j v := by
  refine Prod.ext rfl (funext fun k => funext fun x => ?_)
  rw [zsa_2, zsa_2, zsa_2, zsa_2]
  by_cases h1 : k = i' ∧ x = j'
  · rw [if_pos h1, if_neg (fun h2 => hi ⟨h2.1.symm.trans h1.1, h2.2.symm.trans h1.2⟩), if_pos h1]
  · rw [if_neg h1, if_neg h1]
theorem zCh_sa (A : ZA) (c : Int32) (d n : Nat) {i j : Nat} {v : Int32} (h1 : i ≠ 13) (h2 : i ≠ 14) (e : zfn (zsa A i j v) d n = zfn A d n) (h : ¬ (i = 12 ∧ j = zfn A d n)) : zCh (zsa A i j v) c d n = zsa (zCh A c d n) i j v := by
  unfold zCh
  rw [e, zsa_2, if_neg (fun z => h ⟨z.1.symm, z.2.symm⟩), zsa_cm' A h, zEn_sa _ _ _ h1 h2]
theorem zfn_o (A : ZA) {d n i j : Nat} {v : Int32} (h : i ≠ 10) : zfn (zsa A i j v) d n = zfn A d n := by
  unfold zfn
  rw [zsa_n _ _ _ _ _ (fun e => h e.symm)]
theorem zfn_b (A : ZA) {d n j : Nat} {v : Int32} (h : j / 8 ≠ d) : zfn (zsa A 10 j v) d n = zfn A d n := by
  unfold zfn
  rw [zfg_cg (fun x hx => ?_)]
  have := zhs_lt n
  rw [zsa_2, if_neg (fun z => h (by omega))]
theorem zfn_d8 (A : ZA) (d n : Nat) : zfn A d n / 8 = d := zfn_div A d n
theorem zCh_bg (A : ZA) (c : Int32) {d n D : Nat} (hne : D ≠ d) (o : Int32) : ∀ k, k ≤ 8 → zCh (zBg A D o k) c d n = zBg (zCh A c d n) D o k ∧ zfn (zBg A D o k) d n = zfn A d n
  | 0, _ => ⟨zCh_sa A c d n (by decide) (by decide) (zfn_o A (by decide)) (fun z => by omega), zfn_o A (by decide)⟩
  | k + 1, hk => by
    have ih := zCh_bg A c (n := n) hne o k (by omega)
    have hd8 := zfn_d8 A d n
    have e1 : zfn (zsa (zBg A D o k) 10 (8 * D + k) (if k = 0 then nI 8 else nI 0)) d n = zfn (zBg A D o k) d n := zfn_b _ (by omega)
    have e2 : zfn (zsa (zsa (zBg A D o k) 10 (8 * D + k) (if k = 0 then nI 8 else nI 0)) 11 (8 * D + k) (if k = 0 then o else -1)) d n = zfn (zsa (zBg A D o k) 10 (8 * D + k) (if k = 0 then nI 8 else nI 0)) d n := zfn_o _ (by decide)
    have e3 : zfn (zsa (zsa (zsa (zBg A D o k) 10 (8 * D + k) (if k = 0 then nI 8 else nI 0)) 11 (8 * D + k) (if k = 0 then o else -1)) 12 (8 * D + k) (nI 0)) d n = zfn (zsa (zsa (zBg A D o k) 10 (8 * D + k) (if k = 0 then nI 8 else nI 0)) 11 (8 * D + k) (if k = 0 then o else -1)) d n := zfn_o _ (by decide)
    rw [zBg, zBg]
    refine ⟨?_, e3.trans (e2.trans (e1.trans ih.2))⟩
    rw [zCh_sa _ c d n (by decide) (by decide) e3 (fun z => by have z2 := z.2; rw [e2, e1, ih.2] at z2; omega), zCh_sa _ c d n (by decide) (by decide) e2 (fun z => by omega), zCh_sa _ c d n (by decide) (by decide) e1 (fun z => by omega), ih.1]
theorem zBg_6 (A : ZA) (D : Nat) (o : Int32) (j : Nat) (v : Int32) : ∀ k, zBg (zsa A 6 j v) D o k = zsa (zBg A D o k) 6 j v
  | 0 => zsa_cm A (by decide) _ _ _ _
  | k + 1 => by
    rw [zBg, zBg, zBg_6 A D o j v k, zsa_cm (zBg A D o k) (show (6 : Nat) ≠ 10 by decide), zsa_cm _ (show (6 : Nat) ≠ 11 by decide), zsa_cm _ (show (6 : Nat) ≠ 12 by decide)]
theorem zBg_sc (A : ZA) (D : Nat) (o : Int32) (i : Nat) (v : Int32) : ∀ k, zBg (zsc A i v) D o k = zsc (zBg A D o k) i v
  | 0 => rfl
  | k + 1 => by
    rw [zBg, zBg, zBg_sc A D o i v k]
    rfl
theorem zAg.bg (h : zAg A B) (D : Nat) (o : Int32) : ∀ k, zAg (zBg A D o k) (zBg B D o k)
  | 0 => h.sa _ _ _
  | k + 1 => (((h.bg D o k).sa _ _ _).sa _ _ _).sa _ _ _
theorem zAg.nd (h : zAg A B) (D p : Nat) (n o : Int32) : zAg (zNd A D p n o) (zNd B D p n o) := ((h.sa 4 _ _).sa 5 _ _).bg D o 8
/-- makeDirectory, in the order of the class -/
theorem zMk_eq (A : ZA) (c d n D : Nat) (hne : D ≠ d) : zMk A c d n D = zsa (zCh (zsc (zNd A D d (nI n) (-1)) 2 (nI (D + 1))) (nI c) d n) 6 (50 * d + n) (-2 - nI D) := by
  unfold zMk zNd
  have h4 : ∀ X : ZA, ∀ v, zCh (zsa X 4 D v) (nI c) d n = zsa (zCh X (nI c) d n) 4 D v := fun X v => zCh_sa X _ _ _ (by decide) (by decide) (zfn_o X (by decide)) (fun z => by omega)
  have h5 : ∀ X : ZA, ∀ v, zCh (zsa X 5 D v) (nI c) d n = zsa (zCh X (nI c) d n) 5 D v := fun X v => zCh_sa X _ _ _ (by decide) (by decide) (zfn_o X (by decide)) (fun z => by omega)
  rw [zCh_sc _ _ _ _ (by decide), zCh_sc _ _ _ _ (by decide), (zCh_bg _ _ hne _ 8 (Nat.le_refl _)).1, h5, h4]
  rw [zsa_sc, zsa_sc, zsa_sc, zBg_sc, zsa_sc]
  rw [zsa_cm _ (show (6 : Nat) ≠ 4 by decide), zsa_cm _ (show (6 : Nat) ≠ 5 by decide), zBg_6]
theorem zNw_cf : [8, 0, 0, 0, 0, 0, 0, 0] ∈ zcfs := by decide +kernel
theorem zNw_g : ∀ h, h < 8 → ([8, 0, 0, 0, 0, 0, 0, 0] : List Nat).getD h 0 = if h = 0 then 8 else 0 := by decide
theorem zJ.mk (h : zJ A t D F T L) {d n : Nat} (hD : D < 12) (hd : d < 12) (hn : n < 50) (hv : A.2 3 d = 1) (hfree : A.2 6 (50 * d + n) = -1) (h1 : A'.1 = (zsc A 2 (nI (D + 1))).1) (h3 : ∀ j, A'.2 3 j = if j = D then nI 1 else A.2 3 j) (h4 : ∀ j, A'.2 4 j = if j = D then nI d else A.2 4 j) (h5 : ∀ j, A'.2 5 j = if j = D then nI n else A.2 5 j) (h6 : ∀ j, A'.2 6 j = if j = 50 * d + n then -2 - nI D else A.2 6 j) (h10 : ∀ j, A'.2 10 j = if 8 * D ≤ j ∧ j < 8 * D + 8 then (if j = 8 * D then nI 8 else nI 0) else A.2 10 j) (h11 : ∀ j, A'.2 11 j = if 8 * D ≤ j ∧ j < 8 * D + 8 then (if j = 8 * D then -1 else -1) else A.2 11 j) : zJ A' (t + 1) (D + 1) F T L := by
  have hdD := h.al hd hv
  have hND : ∀ e, e < 12 → A.2 3 e = 1 → ¬ e = D := fun e g1 g2 => by have := h.al g1 g2; omega
  have hal : ∀ e, e < 12 → A.2 3 e = 1 → A'.2 3 e = 1 := fun e g1 g2 => by rw [h3, if_neg (hND e g1 g2)]; exact g2
  have hal2 : ∀ e, A'.2 3 e = 1 → e = D ∨ A.2 3 e = 1 := fun e g => by
    rw [h3] at g
    by_cases z : e = D
    · exact Or.inl z
    · rw [if_neg z] at g
      exact Or.inr g
  have hpar : ∀ e, ¬ e = D → zpar A' e = zpar A e := fun e g => by unfold zpar; rw [h4, if_neg g]
  have hnam : ∀ e, ¬ e = D → znam A' e = znam A e := fun e g => by unfold znam; rw [h5, if_neg g]
  have hpD : zpar A' D = d := by unfold zpar; rw [h4, if_pos rfl]; exact nI_clamp (by omega)
  have hnD : znam A' D = n := by unfold znam; rw [h5, if_pos rfl]; exact nI_clamp (by omega)
  have hup : ∀ e, e < 12 → A.2 3 e = 1 → zUp A e → zUp A' e := fun e g1 g2 ⟨u1, u2, u3, u4, u5⟩ => by
    have hne := hND e g1 g2
    refine ⟨by rw [hpar e hne, h4, if_neg hne]; exact u1, by rw [hpar e hne]; exact u2, by rw [hpar e hne]; exact hal _ u2 u3, by rw [hnam e hne, h5, if_neg hne]; exact u4, by rw [hnam e hne]; exact u5⟩
  have hdp : ∀ k e, e < 12 → A.2 3 e = 1 → zDp A k e → zDp A' k e := fun k => by
    induction k with
    | zero => exact fun e _ _ g => g
    | succ k ih =>
      intro e g1 g2 g
      rcases g with g | ⟨u, g⟩
      · exact Or.inl g
      · refine Or.inr ⟨hup e g1 g2 u, ?_⟩
        rw [hpar e (hND e g1 g2)]
        exact ih _ u.2.1 u.2.2.1 g
  obtain ⟨j1, j2, j3, j4, j5, j6, j7, j8, j9, j10, j11⟩ := h
  have hupD : zUp A' D := ⟨by rw [hpD, h4, if_pos rfl], by rw [hpD]; exact hd, by rw [hpD]; exact hal d hd hv, by rw [hnD, h5, if_pos rfl], by rw [hnD]; exact hn⟩
  refine ⟨by rw [h1, zsc_1, if_neg (by decide)]; exact ⟨j1.1, by have := j1.2; omega⟩, by rw [h1, zsc_1, if_neg (by decide)]; exact ⟨j2.1, by have := j2.2; omega⟩, by rw [h1, zsc_1, if_neg (by decide)]; exact j3, ⟨by rw [h1, zsc_1, if_pos rfl], by omega, by omega, fun j hj => ?_⟩, ⟨fun e g1 g2 => ?_, fun y g1 g2 => ?_⟩, fun e g1 g2 => ?_, fun f g1 g2 => ?_, fun e g1 g2 => ?_, fun d' n' g1 g2 => ?_, fun e g1 g2 g3 => ?_, ?_⟩
  · rw [h3]
    by_cases z : j = D
    · rw [if_pos z]
      exact Or.inl ⟨rfl, by omega⟩
    · rw [if_neg z]
      exact (j4.2.2.2 j hj).imp (fun q => ⟨q.1, by omega⟩) id
  · rw [h10]
    rcases hal2 e g2 with z | z
    · rw [if_pos (by omega), if_pos (by omega)]
      decide
    · have := hND e g1 z
      rw [if_neg (by omega)]
      exact j5.1 e g1 z
  · have := j4.2.1
    rw [h10, if_neg (by omega)] at g2
    rw [h11, if_neg (by omega)]
    exact j5.2 y g1 g2
  · rcases hal2 e g2 with z | z
    · subst z
      refine zDp_11 (k := 12) (Or.inr ⟨hupD, ?_⟩) g1
      rw [hpD]
      exact hdp 11 d hd hv (j6 d hd hv)
    · exact hdp 11 e g1 z (j6 e g1 z)
  · rw [h10] at g2
    by_cases z : 8 * D ≤ f ∧ f < 8 * D + 8
    · rw [h3, if_pos (by omega)]
      rfl
    · rw [if_neg z] at g2
      exact hal _ (by omega) (j7 f g1 g2)
  · rcases hal2 e g2 with z | z
    · subst z
      refine ⟨_, zNw_cf, fun y hy => ?_⟩
      rw [h10, if_pos (by omega), zNw_g y hy]
      by_cases q : y = 0
      · rw [if_pos (by omega), if_pos q]
      · rw [if_neg (by omega), if_neg q]
    · have := hND e g1 z
      obtain ⟨c, hc⟩ := j8 e g1 z
      exact ⟨c, hc.cg (fun y hy => by rw [h10, if_neg (by omega)])⟩
  · rw [h6]
    by_cases e : 50 * d' + n' = 50 * d + n
    · rw [if_pos e]
      have q1 : d' = d := by omega
      have q2 : n' = n := by omega
      subst q1; subst q2
      exact Or.inr ⟨hal d' hd hv, Or.inr ⟨D, hD, by omega, by rw [h3, if_pos rfl]; rfl, rfl, hpD, hnD⟩⟩
    · rw [if_neg e]
      rcases j9 d' n' g1 g2 with g | ⟨g0, g | ⟨e', q1, q2, q3, q4, q5, q6⟩⟩
      · exact Or.inl g
      · exact Or.inr ⟨hal d' g1 g0, Or.inl g⟩
      · have hne := hND e' q1 q3
        exact Or.inr ⟨hal d' g1 g0, Or.inr ⟨e', q1, q2, hal e' q1 q3, q4, by rw [hpar e' hne]; exact q5, by rw [hnam e' hne]; exact q6⟩⟩
  · rcases hal2 e g3 with z | z
    · subst z
      rw [hpD, hnD, h6, if_pos rfl]
    · have hne := hND e g1 z
      have g := j10 e g1 g2 z
      rw [hpar e hne, hnam e hne, h6]
      by_cases q : 50 * zpar A e + znam A e = 50 * d + n
      · rw [q, hfree] at g
        exact absurd g.symm (zdv e g1).2.2
      · rw [if_neg q]
        exact g
  · unfold zMm
    rw [h1, zsc_1, zsc_1, if_neg (by decide), if_neg (by decide)]
    rcases j11 with q | ⟨m, q1, q2, q3, q4, q5⟩
    · exact Or.inl q
    · have := hND (m / 8) (by omega) q3
      exact Or.inr ⟨m, q1, q2, hal _ (by omega) q3, by rw [h10, if_neg (by omega)]; exact q4, q5⟩
end ZSK
