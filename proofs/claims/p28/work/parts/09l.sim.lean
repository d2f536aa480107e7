/-! calls on both sides: remove -/
section ZSL
variable {A B A' B' : ZA} {t D F T L : Nat}
theorem zRf_n (A : ZA) (c d n : Nat) {i : Nat} (h6 : i ≠ 6) (h12 : i ≠ 12) (h13 : i ≠ 13) (h14 : i ≠ 14) : (zRf A c d n).2 i = A.2 i := by
  unfold zRf
  rw [zsa_n _ _ _ _ _ h6, zCh_2 _ _ _ _ h12 h13 h14]
theorem zRf_1 (A : ZA) (c d n : Nat) : (zRf A c d n).1 = A.1 := by
  unfold zRf
  rw [zsa_1, zCh_1]
theorem zRf_6 (A : ZA) (c d n j : Nat) : (zRf A c d n).2 6 j = if j = 50 * d + n then -1 else A.2 6 j := by
  unfold zRf
  rw [zsa_2]
  by_cases z : j = 50 * d + n
  · rw [if_pos ⟨rfl, z⟩, if_pos z]
  · rw [if_neg (fun y => z y.2), if_neg z, zCh_2 _ _ _ _ (by decide) (by decide) (by decide)]
theorem zJ.cv (h : zJ A t D F T L) : zCv A := h.2.2.2.2.2.2.2.2.2.1
/-- a link goes -/
theorem zRS.rf (hJ : zJ A t D F T L) (hA : zAg A B) (hl : zLs A B) (he : zAe A B L) (hu : zUm B D) (ht : t ≤ 600) {c d n f : Nat} (hd : d < 12) (hn : n < 50) (hv : A.2 3 d = 1) (hs : A.2 6 (50 * d + n) = nI f) (hf : f < 30) : zRS (zRf A c d n) (zcn B (nI c) d n (-1) (nI 0)) (t + 1) := by
  have g := zCn hA hl hd hn hv (nI c) (-1) (nI 0) (hJ.n0 ht)
  have h1 := zRf_1 A c d n
  have h6 := zSt6 (A' := zRf A c d n) hJ.sn hJ.cv hd hn hv (fun e he e2 => by rw [hs] at e2; exact zfvd hf he e2) (Nat.le_refl F) (Or.inl rfl) (zRf_n A c d n (by decide) (by decide) (by decide) (by decide)) (zRf_n A c d n (by decide) (by decide) (by decide) (by decide)) (zRf_n A c d n (by decide) (by decide) (by decide) (by decide)) (zRf_6 A c d n)
  refine ⟨D, F, T, L, hJ.mk6 h6 (by rw [h1]) (by rw [h1]) (by rw [h1]; exact ⟨hJ.2.1.1, by have := hJ.2.1.2; omega⟩) (by rw [h1]; exact hJ.fl) (by rw [h1]) (by rw [h1]) (zRf_n A c d n (by decide) (by decide) (by decide) (by decide)) (zRf_n A c d n (by decide) (by decide) (by decide) (by decide)) (zRf_n A c d n (by decide) (by decide) (by decide) (by decide)) (zRf_n A c d n (by decide) (by decide) (by decide) (by decide)) (zRf_n A c d n (by decide) (by decide) (by decide) (by decide)), g.1, g.2, fun k f' k1 k2 k3 => ?_, hu.cn (hJ.al hd hv) hn _ _ _⟩
  rw [zRf_6] at k3
  rw [zRf_n A c d n (by decide) (by decide) (by decide) (by decide), zcn_7]
  by_cases z : k = 50 * d + n
  · rw [if_pos z] at k3
    exact absurd k3.symm (zfv2 k2)
  · rw [if_neg z] at k3
    rw [if_neg z]
    exact he k f' k1 k2 k3
theorem zel_s3 (B : ZA) (a : Nat) (ex : Int32) (j : Nat) (v : Int32) : ∀ k, zel (zsa B 3 j v) a ex k = zsa (zel B a ex k) 3 j v
  | 0 => rfl
  | k + 1 => by
    rw [zel, zel, zel_s3 B a ex j v k, zsa_1, zsa_n _ _ _ _ 13 (by decide), zsa_n _ _ _ _ 14 (by decide)]
    by_cases h1 : B.1 1 < (zel B a ex k).2 13 (600 * k + a)
    · rw [if_pos h1, if_pos h1]
      by_cases h2 : nI k = ex
      · rw [if_pos h2, if_pos h2, zsa_cm _ (show (3 : Nat) ≠ 13 by decide)]
      · rw [if_neg h2, if_neg h2, zsa_cm _ (show (3 : Nat) ≠ 13 by decide), zsa_cm _ (show (3 : Nat) ≠ 14 by decide)]
    · rw [if_neg h1, if_neg h1]
theorem zcn_s3 (B : ZA) (c : Int32) (d n : Nat) (m g : Int32) (j : Nat) (v : Int32) : zcn (zsa B 3 j v) c d n m g = zsa (zcn B c d n m g) 3 j v := by
  unfold zcn
  rw [zfn_o B (show (3 : Nat) ≠ 10 by decide), zsa_n B 3 _ _ 12 (by decide), zsa_cm B (show (3 : Nat) ≠ 6 by decide), zsa_cm _ (show (3 : Nat) ≠ 7 by decide), zsa_cm _ (show (3 : Nat) ≠ 12 by decide), zel_s3]
theorem zZ8_n (A : ZA) (e : Nat) {i : Nat} (h : i ≠ 10) : ∀ k, (zZ8 A e k).2 i = A.2 i
  | 0 => rfl
  | k + 1 => by rw [zZ8, zsa_n _ _ _ _ _ h]; exact zZ8_n A e h k
theorem zZ8_1 (A : ZA) (e : Nat) : ∀ k, (zZ8 A e k).1 = A.1
  | 0 => rfl
  | k + 1 => by rw [zZ8, zsa_1]; exact zZ8_1 A e k
theorem zZ8_10 (A : ZA) (e j : Nat) : ∀ k, (zZ8 A e k).2 10 j = if 8 * e ≤ j ∧ j < 8 * e + k then nI 0 else A.2 10 j
  | 0 => by rw [if_neg (by omega)]; rfl
  | k + 1 => by
    rw [zZ8, zsa_2, zZ8_10 A e j k]
    by_cases h1 : j = 8 * e + k
    · rw [if_pos ⟨rfl, h1⟩, if_pos (by omega)]
    · rw [if_neg (fun z => h1 z.2)]
      by_cases h2 : 8 * e ≤ j ∧ j < 8 * e + k
      · rw [if_pos h2, if_pos (by omega)]
      · rw [if_neg h2, if_neg (by omega)]
theorem zAg.z8 (h : zAg A B) (e : Nat) : ∀ k, zAg (zZ8 A e k) (zZ8 B e k)
  | 0 => h
  | k + 1 => (h.z8 e k).sa _ _ _
theorem zZu_n (A : ZA) (e c : Nat) {i : Nat} (h : i ≠ 13) : ∀ k, (zZu A e c k).2 i = A.2 i
  | 0 => rfl
  | k + 1 => by rw [zZu, zsa_n _ _ _ _ _ h]; exact zZu_n A e c h k
theorem zZu_1 (A : ZA) (e c : Nat) : ∀ k, (zZu A e c k).1 = A.1
  | 0 => rfl
  | k + 1 => by rw [zZu, zsa_1]; exact zZu_1 A e c k
theorem zZu_13 (A : ZA) (e c j : Nat) : ∀ k, (zZu A e c k).2 13 j = if 600 * c + 50 * e ≤ j ∧ j < 600 * c + 50 * e + k then nI 0 else A.2 13 j
  | 0 => by rw [if_neg (by omega)]; rfl
  | k + 1 => by
    rw [zZu, zsa_2, zZu_13 A e c j k]
    by_cases h1 : j = 600 * c + (50 * e + k)
    · rw [if_pos ⟨rfl, h1⟩, if_pos (by omega)]
    · rw [if_neg (fun z => h1 z.2)]
      by_cases h2 : 600 * c + 50 * e ≤ j ∧ j < 600 * c + 50 * e + k
      · rw [if_pos h2, if_pos (by omega)]
      · rw [if_neg h2, if_neg (by omega)]
theorem zZv_n (A : ZA) (e : Nat) {i : Nat} (h : i ≠ 13) : ∀ k, (zZv A e k).2 i = A.2 i
  | 0 => rfl
  | k + 1 => by rw [zZv, zZu_n _ _ _ h]; exact zZv_n A e h k
theorem zZv_1 (A : ZA) (e : Nat) : ∀ k, (zZv A e k).1 = A.1
  | 0 => rfl
  | k + 1 => by rw [zZv, zZu_1]; exact zZv_1 A e k
theorem zZv_o (A : ZA) {e c d n : Nat} (he : e < 12) (hd : d < 12) (hn : n < 50) (hne : d ≠ e) : ∀ k, (zZv A e k).2 13 (600 * c + (50 * d + n)) = A.2 13 (600 * c + (50 * d + n))
  | 0 => rfl
  | k + 1 => by
    rw [zZv, zZu_13, if_neg (by omega)]
    exact zZv_o A he hd hn hne k
theorem zZv_i (A : ZA) {e c n : Nat} (he : e < 12) (hn : n < 50) : ∀ k, c < k → (zZv A e k).2 13 (600 * c + (50 * e + n)) = nI 0
  | 0, h => absurd h (Nat.not_lt_zero c)
  | k + 1, h => by
    rw [zZv, zZu_13]
    by_cases h1 : c = k
    · rw [if_pos (by omega)]
    · rw [if_neg (by omega)]
      exact zZv_i A he hn k (by omega)
theorem zAg.zv (h : zAg A B) (e : Nat) : ∀ k, zAg (zZv A e k) B := fun k => ⟨by rw [zZv_1]; exact h.1, fun i h1 h2 => by rw [zZv_n _ _ h2]; exact h.2 i h1 h2⟩
theorem zcN_z {p : Nat → Bool} : ∀ n, ¬ 0 < zcN p n → ∀ k, k < n → ¬ p k = true
  | 0, _, k, hk => absurd hk (Nat.not_lt_zero k)
  | n + 1, h, k, hk => by
    by_cases h1 : p n = true
    · rw [zcN_t h1] at h
      omega
    · rw [zcN_f h1] at h
      by_cases e : k = n
      · rw [e]
        exact h1
      · exact zcN_z n (by omega) k (by omega)
/-- a directory that nothing holds is empty -/
theorem zHd_e {e : Nat} (h : ¬ zHd A e) {n : Nat} (hn : n < 50) : A.2 6 (50 * e + n) = -1 := by
  have h1 := zcN_z 50 (fun z => h (Or.inl z)) n hn
  unfold zpu at h1
  by_cases g : A.2 6 (50 * e + n) = -1
  · exact g
  · exact absurd (by rw [decide_eq_false g]; rfl) h1
theorem zRd_n (A : ZA) (c d n e : Nat) {i : Nat} (h3 : i ≠ 3) (h10 : i ≠ 10) (h13 : i ≠ 13) : (zRd A c d n e).2 i = (zRf A c d n).2 i := by
  unfold zRd
  rw [zZv_n _ _ h13, zZ8_n _ _ h10, zsa_n _ _ _ _ _ h3]
theorem zRd_1 (A : ZA) (c d n e : Nat) : (zRd A c d n e).1 = A.1 := by
  unfold zRd
  rw [zZv_1, zZ8_1, zsa_1, zRf_1]
theorem zRd_3 (A : ZA) (c d n e j : Nat) : (zRd A c d n e).2 3 j = if j = e then nI 0 else A.2 3 j := by
  unfold zRd
  rw [zZv_n _ _ (by decide), zZ8_n _ _ (by decide), zsa_2, zRf_n _ _ _ _ (by decide) (by decide) (by decide) (by decide)]
  by_cases z : j = e
  · rw [if_pos ⟨rfl, z⟩, if_pos z]
  · rw [if_neg (fun y => z y.2), if_neg z]
theorem zRd_10 (A : ZA) (c d n e j : Nat) : (zRd A c d n e).2 10 j = if 8 * e ≤ j ∧ j < 8 * e + 8 then nI 0 else A.2 10 j := by
  unfold zRd
  rw [zZv_n _ _ (by decide), zZ8_10, zsa_n _ _ _ _ _ (by decide), zRf_n _ _ _ _ (by decide) (by decide) (by decide) (by decide)]
theorem zJ.rd (h : zJ A t D F T L) {c d n e : Nat} (hd : d < 12) (hn : n < 50) (hv : A.2 3 d = 1) (he : e < 12) (he0 : ¬ e = 0) (hpe : zpar A e = d) (hne : znam A e = n) (hs : A.2 6 (50 * d + n) = -2 - nI e) (hh : ¬ zHd A e) : zJ (zRd A c d n e) (t + 1) D F T L := by
  have h1 := zRd_1 A c d n e
  have h3 := zRd_3 A c d n e
  have h4 : (zRd A c d n e).2 4 = A.2 4 := (zRd_n A c d n e (by decide) (by decide) (by decide)).trans (zRf_n A c d n (by decide) (by decide) (by decide) (by decide))
  have h5 : (zRd A c d n e).2 5 = A.2 5 := (zRd_n A c d n e (by decide) (by decide) (by decide)).trans (zRf_n A c d n (by decide) (by decide) (by decide) (by decide))
  have h6 : ∀ j, (zRd A c d n e).2 6 j = if j = 50 * d + n then -1 else A.2 6 j := fun j => by rw [zRd_n A c d n e (by decide) (by decide) (by decide), zRf_6]
  have h10 := zRd_10 A c d n e
  have h11 : (zRd A c d n e).2 11 = A.2 11 := (zRd_n A c d n e (by decide) (by decide) (by decide)).trans (zRf_n A c d n (by decide) (by decide) (by decide) (by decide))
  generalize zRd A c d n e = A' at h1 h3 h4 h5 h6 h10 h11
  have hal : ∀ j, A'.2 3 j = 1 → ¬ j = e ∧ A.2 3 j = 1 := fun j g => by
    rw [h3] at g
    by_cases z : j = e
    · rw [if_pos z] at g
      exact absurd g (by decide)
    · rw [if_neg z] at g
      exact ⟨z, g⟩
  have hla : ∀ j, ¬ j = e → A.2 3 j = 1 → A'.2 3 j = 1 := fun j z g => by rw [h3, if_neg z]; exact g
  have hpar : ∀ j, zpar A' j = zpar A j := zpar.cg h4
  have hnam : ∀ j, znam A' j = znam A j := znam.cg h5
  have hcv := h.cv
  obtain ⟨j1, j2, j3, j4, j5, j6, j7, j8, j9, j10, j11⟩ := h
  have hnp : ∀ j, j < 12 → ¬ j = 0 → A.2 3 j = 1 → zUp A j → ¬ zpar A j = e := fun j g1 g2 g3 u z => by
    have q := hcv j g1 g2 g3
    rw [z, zHd_e hh u.2.2.2.2] at q
    exact (zdv j g1).2.2 q.symm
  have hdp : ∀ k j, j < 12 → A.2 3 j = 1 → zDp A k j → zDp A' k j := fun k => by
    induction k with
    | zero => exact fun j _ _ g => g
    | succ k ih =>
      intro j g1 g2 g
      rcases g with g | ⟨u, g⟩
      · exact Or.inl g
      · by_cases z : j = 0
        · exact Or.inl z
        · have hz := hnp j g1 z g2 u
          obtain ⟨u1, u2, u3, u4, u5⟩ := u
          refine Or.inr ⟨⟨by rw [hpar, h4]; exact u1, by rw [hpar]; exact u2, by rw [hpar]; exact hla _ hz u3, by rw [hnam, h5]; exact u4, by rw [hnam]; exact u5⟩, ?_⟩
          rw [hpar]
          exact ih _ u2 u3 g
  refine ⟨by rw [h1]; exact ⟨j1.1, by have := j1.2; omega⟩, by rw [h1]; exact ⟨j2.1, by have := j2.2; omega⟩, by rw [h1]; exact j3, ⟨by rw [h1]; exact j4.1, j4.2.1, j4.2.2.1, fun j hj => ?_⟩, ⟨fun j g1 g2 => ?_, fun y g1 g2 => ?_⟩, fun j g1 g2 => ?_, fun f g1 g2 => ?_, fun j g1 g2 => ?_, fun d' n' g1 g2 => ?_, fun j g1 g2 g3 => ?_, ?_⟩
  · rw [h3]
    by_cases z : j = e
    · rw [if_pos z]
      exact Or.inr rfl
    · rw [if_neg z]
      exact j4.2.2.2 j hj
  · obtain ⟨z1, z2⟩ := hal j g2
    rw [h10, if_neg (by omega)]
    exact j5.1 j g1 z2
  · rw [h10, if_neg (by omega)] at g2
    rw [h11]
    exact j5.2 y g1 g2
  · obtain ⟨z1, z2⟩ := hal j g2
    exact hdp 11 j g1 z2 (j6 j g1 z2)
  · rw [h10] at g2
    by_cases z : 8 * e ≤ f ∧ f < 8 * e + 8
    · rw [if_pos z] at g2
      exact absurd rfl g2
    · rw [if_neg z] at g2
      exact hla _ (by omega) (j7 f g1 g2)
  · obtain ⟨z1, z2⟩ := hal j g2
    obtain ⟨c', hc'⟩ := j8 j g1 z2
    exact ⟨c', hc'.cg (fun y hy => by rw [h10, if_neg (by omega)])⟩
  · rw [h6]
    by_cases z : 50 * d' + n' = 50 * d + n
    · rw [if_pos z]
      exact Or.inl rfl
    · rw [if_neg z]
      by_cases z2 : d' = e
      · rw [z2]
        exact Or.inl (zHd_e hh g2)
      · rcases j9 d' n' g1 g2 with g | ⟨g0, g | ⟨e', q1, q2, q3, q4, q5, q6⟩⟩
        · exact Or.inl g
        · exact Or.inr ⟨hla d' z2 g0, Or.inl g⟩
        · refine Or.inr ⟨hla d' z2 g0, Or.inr ⟨e', q1, q2, hla e' (fun y => ?_) q3, q4, by rw [hpar]; exact q5, by rw [hnam]; exact q6⟩⟩
          subst y
          exact z (by rw [← q5, ← q6, hpe, hne])
  · obtain ⟨z1, z2⟩ := hal j g3
    have g := j10 j g1 g2 z2
    rw [hpar, hnam, h6]
    by_cases z : 50 * zpar A j + znam A j = 50 * d + n
    · rw [z, hs] at g
      exact absurd (zdvi he g1 g).symm z1
    · rw [if_neg z]
      exact g
  · unfold zMm
    rw [h1]
    rcases j11 with q | ⟨m, q1, q2, q3, q4, q5⟩
    · exact Or.inl q
    · have hm8 : ¬ m / 8 = e := fun z => hh (Or.inr (by rw [q2, nI_clamp (by omega)]; exact ⟨nI_ne1 (by omega), rfl, z⟩))
      exact Or.inr ⟨m, q1, q2, hla _ hm8 q3, by rw [h10, if_neg (by omega)]; exact q4, q5⟩
/-- a directory goes -/
theorem zRS.rd (hJ : zJ A t D F T L) (hA : zAg A B) (hl : zLs A B) (he : zAe A B L) (hu : zUm B D) (ht : t ≤ 600) {c d n e : Nat} (hd : d < 12) (hn : n < 50) (hv : A.2 3 d = 1) (he12 : e < 12) (he0 : ¬ e = 0) (hpe : zpar A e = d) (hne : znam A e = n) (hs : A.2 6 (50 * d + n) = -2 - nI e) (hh : ¬ zHd A e) : zRS (zRd A c d n e) (zZ8 (zsa (zcn B (nI c) d n (-1) (nI 0)) 3 e (nI 0)) e 8) (t + 1) := by
  have g := zCn hA hl hd hn hv (nI c) (-1) (nI 0) (hJ.n0 ht)
  have hg1 : zAg (zRf A c d n) (zcn B (nI c) d n (-1) (nI 0)) := g.1
  have hg2 : zLs (zRf A c d n) (zcn B (nI c) d n (-1) (nI 0)) := g.2
  have h0 := hJ.n0 ht
  have hl' := hg2
  have e13 : ∀ c' d' n', d' < 12 → n' < 50 → ¬ d' = e → (zRd A c d n e).2 13 (600 * c' + (50 * d' + n')) = (zRf A c d n).2 13 (600 * c' + (50 * d' + n')) := fun c' d' n' k1 k2 k3 => by
    unfold zRd
    rw [zZv_o _ he12 k1 k2 k3, zZ8_n _ _ (by decide), zsa_n _ _ _ _ _ (by decide)]
  have b13 : (zZ8 (zsa (zcn B (nI c) d n (-1) (nI 0)) 3 e (nI 0)) e 8).2 13 = (zcn B (nI c) d n (-1) (nI 0)).2 13 := by rw [zZ8_n _ _ (by decide), zsa_n _ _ _ _ _ (by decide)]
  have b7 : (zZ8 (zsa (zcn B (nI c) d n (-1) (nI 0)) 3 e (nI 0)) e 8).2 7 = (zcn B (nI c) d n (-1) (nI 0)).2 7 := by rw [zZ8_n _ _ (by decide), zsa_n _ _ _ _ _ (by decide)]
  have b6 : (zZ8 (zsa (zcn B (nI c) d n (-1) (nI 0)) 3 e (nI 0)) e 8).2 6 = (zcn B (nI c) d n (-1) (nI 0)).2 6 := by rw [zZ8_n _ _ (by decide), zsa_n _ _ _ _ _ (by decide)]
  refine ⟨D, F, T, L, hJ.rd hd hn hv he12 he0 hpe hne hs hh, ?_, fun c' d' n' k1 k2 k3 => ?_, fun k f k1 k2 k3 => ?_, ?_⟩
  · unfold zRd
    exact ((hg1.sa 3 e (nI 0)).z8 e 8).zv e 4
  · rw [zRd_1, zRd_3, b13]
    by_cases z : d' = e
    · subst z
      refine ⟨fun y => ?_, fun _ => ?_⟩
      · rw [if_pos rfl] at y
        exact absurd y (by decide)
      · unfold zRd
        rw [zZv_i _ he12 k3 4 k1]
        exact h0
    · rw [if_neg z, e13 c' d' n' k2 k3 z]
      have q := hl' c' d' n' k1 k2 k3
      rw [zRf_1, zRf_n _ _ _ _ (by decide) (by decide) (by decide) (by decide)] at q
      exact q
  · rw [zRd_n A c d n e (by decide) (by decide) (by decide), zRf_6] at k3
    rw [zRd_n A c d n e (by decide) (by decide) (by decide), zRf_n A c d n (by decide) (by decide) (by decide) (by decide), b7, zcn_7]
    by_cases z : k = 50 * d + n
    · rw [if_pos z] at k3
      exact absurd k3.symm (zfv2 k2)
    · rw [if_neg z] at k3
      rw [if_neg z]
      exact he k f k1 k2 k3
  · exact (hu.cn (hJ.al hd hv) hn (nI c) (-1) (nI 0)).cg b6 b7 b13
theorem zDp_self {e : Nat} (h : zpar A e = e) : ∀ k, zDp A k e → e = 0
  | 0, g => g
  | k + 1, g => g.elim id (fun q => zDp_self h k (by have := q.2; rwa [h] at this))
end ZSL
