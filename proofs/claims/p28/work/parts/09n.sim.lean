/-! p28: the class alone; the numbers A go along with it -/
section ZPN
variable {A B A' B' : ZA} {t D F T L : Nat}
theorem zfz_no (h : A.1 16 = -1) (f : Nat) : ¬ zfz A f = true := by
  rw [show zfz A f = false from zfzN_no h 12 f]
  exact Bool.false_ne_true
theorem zBz_no (h : A.1 16 = -1) {d n : Nat} (hf : A.2 6 (50 * d + n) = -1) : ¬ zBz A d n := fun z => z.elim (fun y => y hf) (fun y => zfz_no h _ y)
/-- nothing moves, the names above 4 are free, the root is there -/
def zIv (A B : ZA) (t : Nat) : Prop := zRS A B t ∧ A.1 16 = -1 ∧ (∀ d n, d < 12 → 5 ≤ n → n < 50 → A.2 6 (50 * d + n) = -1) ∧ A.2 3 0 = 1
/-- a call of the class's: it answers v, its numbers are B' then -/
def zCal (y2 : ZY) (As : List Value) (B : ZA) (v : Option Value) (B' : ZA) : Prop := ∀ (G : ZG) (M : ZM) (W : Nat → Nat → Nat), zC M W B → zMet G y2 (.ref (W 10 0) :: As) M (zCW W M B v B')
theorem zIv.o6 (h : zIv A B t) (g : zRS A' B' (t + 1)) (h16 : A'.1 16 = A.1 16) (h3 : A'.2 3 0 = 1) {d n : Nat} {v : Int32} (hn : n < 5) (h6 : ∀ j, A'.2 6 j = if j = 50 * d + n then v else A.2 6 j) : zIv A' B' (t + 1) := by
  refine ⟨g, h16.trans h.2.1, fun d' n' h1 h2 h3 => ?_, h3⟩
  rw [h6, if_neg (by omega)]
  exact h.2.2.1 d' n' h1 h2 h3
theorem pm_makeDirectory (h : zIv A B t) (ht : t ≤ 600) {c d n D : Nat} (hc : c < 4) (hd : d < 12) (hv : A.2 3 d = 1) (hn5 : n < 5) (hAD : A.1 2 = nI D) (hlt : D < 12) (hfree : A.2 6 (50 * d + n) = -1) : ∃ A' B', zCal mX2_makeDirectory [.int (nI c), .int (nI d), .int (nI n)] B (some (.int (nI D))) B' ∧ zIv A' B' (t + 1) ∧ (∀ k, A'.1 k = if k = 2 then nI (D + 1) else A.1 k) ∧ (∀ j, A'.2 6 j = if j = 50 * d + n then -2 - nI D else A.2 6 j) ∧ ∀ j, A'.2 7 j = A.2 7 j := by
  obtain ⟨D', F, T, L, hJ, hA, hl, he, hu⟩ := id h.1
  have hn : n < 50 := by omega
  have hD := hJ.bas
  have hDD : D' = D := by
    have e := hD.1
    rw [hAD] at e
    exact ((nI_eq (by omega) (by have := hD.2.2.1; omega)).mp e).symm
  subst hDD
  have hDB : B.1 2 = nI D' := by rw [hA.1]; exact hD.1
  have hD12 := hD.2.2.1
  have hvB := hA.val.mpr (show zVal A 3 d from ⟨hd, hv⟩)
  have hz : ¬ zBz A d n := zBz_no h.2.1 hfree
  have hdD := hJ.al hd hv
  have hne : D' ≠ d := by omega
  have hlA : ¬ A.2 3 D' = 1 := fun z => by have := hJ.al hlt z; omega
  have hA1 : zAg (zsc (zNd A D' d (nI n) (-1)) 2 (nI (D' + 1))) (zsc (zNd B D' d (nI n) (-1)) 2 (nI (D' + 1))) := (hA.nd D' d (nI n) (-1)).sc 2 _
  have e13A : (zsc (zNd A D' d (nI n) (-1)) 2 (nI (D' + 1))).2 13 = A.2 13 := by rw [zsc_2]; exact zNd_n A D' d (nI n) (-1) (i := 13) (by decide) (by decide) (by decide) (by decide) (by decide) (by decide)
  have e13B : (zsc (zNd B D' d (nI n) (-1)) 2 (nI (D' + 1))).2 13 = B.2 13 := by rw [zsc_2]; exact zNd_n B D' d (nI n) (-1) (i := 13) (by decide) (by decide) (by decide) (by decide) (by decide) (by decide)
  have e3A : ∀ j, (zsc (zNd A D' d (nI n) (-1)) 2 (nI (D' + 1))).2 3 j = if j = D' then nI 1 else A.2 3 j := fun j => by rw [zsc_2]; exact zNd_3 A D' d (nI n) (-1) j
  have e1A : (zsc (zNd A D' d (nI n) (-1)) 2 (nI (D' + 1))).1 1 = A.1 1 := by rw [zsc_1, if_neg (by decide), zNd_1]
  have h0 := hJ.n0 ht
  have hl1 : zLs (zsc (zNd A D' d (nI n) (-1)) 2 (nI (D' + 1))) (zsc (zNd B D' d (nI n) (-1)) 2 (nI (D' + 1))) := by
    intro c9 d9 n9 k1 k2 k3
    have g := hl c9 d9 n9 k1 k2 k3
    rw [e1A, e13A, e13B, e3A]
    by_cases z : d9 = D'
    · subst z
      refine ⟨fun _ => Or.inr ⟨g.2 hlA, ?_⟩, fun _ => g.2 hlA⟩
      rw [(hu d9 (Nat.le_refl _) hlt n9 k3).2.2 c9 k1]
      exact h0
    · rw [if_neg z]
      exact g
  have g := zCn hA1 hl1 hd hn (by rw [e3A, if_neg (fun z => hne z.symm)]; exact hv) (nI c) (-2 - nI D') (nI 0) (by rw [e1A]; exact h0)
  rw [← zMk_eq A c d n D' hne] at g
  have ci : ∀ i, i ≠ 6 → i ≠ 12 → i ≠ 13 → i ≠ 14 → (zMk A c d n D').2 i = (zNd A D' d (nI n) (-1)).2 i := fun i h6 h12 h13 h14 => by
    rw [zMk_eq A c d n D' hne, zsa_n _ _ _ _ _ h6, zCh_2 _ _ _ _ h12 h13 h14, zsc_2]
  have c6 : ∀ j, (zMk A c d n D').2 6 j = if j = 50 * d + n then -2 - nI D' else A.2 6 j := fun j => by
    rw [zMk_eq A c d n D' hne, zsa_2]
    by_cases z : j = 50 * d + n
    · rw [if_pos ⟨rfl, z⟩, if_pos z]
    · rw [if_neg (fun y => z y.2), if_neg z, zCh_2 _ _ _ _ (by decide) (by decide) (by decide), zsc_2, zNd_n _ _ _ _ _ (by decide) (by decide) (by decide) (by decide) (by decide) (by decide)]
  have c7 : ∀ j, (zMk A c d n D').2 7 j = A.2 7 j := fun j => by
    rw [ci 7 (by decide) (by decide) (by decide) (by decide), zNd_n _ _ _ _ _ (by decide) (by decide) (by decide) (by decide) (by decide) (by decide)]
  have c1 : ∀ k, (zMk A c d n D').1 k = if k = 2 then nI (D' + 1) else A.1 k := fun k => by
    rw [zMk_eq A c d n D' hne, zsa_1, zCh_1, zsc_1, zNd_1]
  have hJ' : zJ (zMk A c d n D') (t + 1) (D' + 1) F T L := by
    refine hJ.mk hlt hd hn hv hfree ?_ (fun j => ?_) (fun j => ?_) (fun j => ?_) c6 (fun j => ?_) (fun j => ?_)
    · rw [zMk_eq A c d n D' hne, zsa_1, zCh_1]
      unfold zsc
      rw [zNd_1]
    · rw [ci 3 (by decide) (by decide) (by decide) (by decide), zNd_3]
    · rw [ci 4 (by decide) (by decide) (by decide) (by decide), zNd_4]
    · rw [ci 5 (by decide) (by decide) (by decide) (by decide), zNd_5]
    · rw [ci 10 (by decide) (by decide) (by decide) (by decide), zNd_10]
    · rw [ci 11 (by decide) (by decide) (by decide) (by decide), zNd_11]
  have n6 : (zsc (zNd B D' d (nI n) (-1)) 2 (nI (D' + 1))).2 6 = B.2 6 := by rw [zsc_2]; exact zNd_n B D' d (nI n) (-1) (i := 6) (by decide) (by decide) (by decide) (by decide) (by decide) (by decide)
  have n7 : (zsc (zNd B D' d (nI n) (-1)) 2 (nI (D' + 1))).2 7 = B.2 7 := by rw [zsc_2]; exact zNd_n B D' d (nI n) (-1) (i := 7) (by decide) (by decide) (by decide) (by decide) (by decide) (by decide)
  have hz' : zRS (zMk A c d n D') (zcn (zsc (zNd B D' d (nI n) (-1)) 2 (nI (D' + 1))) (nI c) d n (-2 - nI D') (nI 0)) (t + 1) := by
    refine ⟨D' + 1, F, T, L, hJ', g.1, g.2, fun k f h1 h2 h3 => ?_, ?_⟩
    · rw [c6] at h3
      by_cases z : k = 50 * d + n
      · rw [if_pos z] at h3
        exact absurd h3.symm (zfvd h2 hlt)
      · rw [if_neg z] at h3
        obtain ⟨a, a1, a2, a3⟩ := he k f h1 h2 h3
        refine ⟨a, a1, ?_, ?_⟩
        · rw [c7]
          exact a2
        · rw [zcn_7, if_neg z, n7]
          exact a3
    · have u1 : zUm (zsc (zNd B D' d (nI n) (-1)) 2 (nI (D' + 1))) (D' + 1) := fun e h1 h2 => zNv.cgm (hu e (by omega) h2) n6 n7 (fun c k _ _ => by rw [e13B])
      exact u1.cn (by omega) hn (nI c) (-2 - nI D') (nI 0)
  refine ⟨zMk A c d n D', _, fun G M W hC => ?_, h.o6 hz' (by rw [c1, if_neg (by decide)]) (by rw [ci 3 (by decide) (by decide) (by decide) (by decide), zNd_3, if_neg (by have := hD.2.1; omega)]; exact h.2.2.2) hn5 c6, c1, c6, c7⟩
  refine ct_X2_makeDirectory_ok (G := G) hC (hA.wf hJ.wf) hc hvB hn (hA.mw hJ.mw) hDB hD12 (fun z => hz ((hA.bz d n).mp z)) hlt (by rw [hA.k 3 (by decide)]; exact hlA) (by omega) (hu D' (Nat.le_refl _) hlt) (fun j hj hj0 => ?_) ?_
  · have hjA := hA.val.mp hj
    rcases hJ.2.2.2.2.2.1 j hjA.1 hjA.2 with q | ⟨q, -⟩
    · exact absurd q hj0
    · rw [hA.par]
      have := hJ.al q.2.1 q.2.2.1
      omega
  · refine ⟨fun e g1 g2 => ?_, fun y g1 g2 => ?_⟩
    · rw [zNd_3] at g2
      rw [zNd_10]
      by_cases z : e = D'
      · rw [if_pos (by omega), if_pos (by omega)]
        decide
      · rw [if_neg z] at g2
        rw [if_neg (by omega)]
        exact (hA.fr hJ.fr).1 e g1 g2
    · rw [zNd_10, if_neg (by omega)] at g2
      rw [zNd_11, if_neg (by omega)]
      exact (hA.fr hJ.fr).2 y g1 g2
theorem zLi_n6 (A : ZA) (c d n : Nat) (f : Int32) (j : Nat) : (zLi A c d n f).2 6 j = if j = 50 * d + n then f else A.2 6 j := by
  unfold zLi
  rw [zLn_6, zCh_2 _ _ _ _ (by decide) (by decide) (by decide)]
theorem zLi_n7 (A : ZA) (c d n : Nat) (f : Int32) (j : Nat) : (zLi A c d n f).2 7 j = if j = 50 * d + n then A.1 8 else A.2 7 j := by
  unfold zLi
  rw [zLn_7, zCh_2 _ _ _ _ (by decide) (by decide) (by decide), zCh_1]
theorem zLi_n3 (A : ZA) (c d n : Nat) (f : Int32) : (zLi A c d n f).2 3 = A.2 3 := by
  unfold zLi
  rw [zLn_2 _ _ _ (by decide) (by decide), zCh_2 _ _ _ _ (by decide) (by decide) (by decide)]
theorem zLi_n1 (A : ZA) (c d n : Nat) (f : Int32) (k : Nat) : (zLi A c d n f).1 k = if k = 8 then A.1 8 + nI 1 else A.1 k := by
  unfold zLi
  rw [zLn_1, zCh_1]
theorem pm_makeFile (h : zIv A B t) (ht : t ≤ 600) {c d n F : Nat} (hc : c < 4) (hd : d < 12) (hv : A.2 3 d = 1) (hn5 : n < 5) (hAF : A.1 9 = nI F) (hlt : F < 30) (hfree : A.2 6 (50 * d + n) = -1) : ∃ A' B', zCal mX2_makeFile [.int (nI c), .int (nI d), .int (nI n)] B (some (.int (nI F))) B' ∧ zIv A' B' (t + 1) ∧ (∀ k, A'.1 k = if k = 9 then nI (F + 1) else if k = 8 then A.1 8 + nI 1 else A.1 k) ∧ (∀ j, A'.2 6 j = if j = 50 * d + n then nI F else A.2 6 j) ∧ ∀ j, A'.2 7 j = if j = 50 * d + n then A.1 8 else A.2 7 j := by
  obtain ⟨D, F', T, L, hJ, hA, hl, he, hu⟩ := id h.1
  have hn : n < 50 := by omega
  have hF := hJ.fl
  have hFF : F' = F := by
    have e := hF.1
    rw [hAF] at e
    exact ((nI_eq (by omega) (by have := hF.2; omega)).mp e).symm
  subst hFF
  have hFB : B.1 9 = nI F' := by rw [hA.1]; exact hF.1
  have hvB := hA.val.mpr (show zVal A 3 d from ⟨hd, hv⟩)
  have hz : ¬ zBz A d n := zBz_no h.2.1 hfree
  have g := zRS.lk (c := c) (hJ.f1 hlt) (hA.sc 9 (nI (F' + 1))) (hl.cg rfl rfl rfl rfl) (he.cg rfl rfl rfl) (hu.cg rfl rfl rfl) ht hd hn hv hfree (Nat.lt_succ_self F')
  have e1 : ∀ k, (zLi (zsc A 9 (nI (F' + 1))) c d n (nI F')).1 k = if k = 9 then nI (F' + 1) else if k = 8 then A.1 8 + nI 1 else A.1 k := fun k => by
    rw [zLi_n1, zsc_1, zsc_1, if_neg (show ¬ 8 = 9 by decide)]
    by_cases z : k = 8
    · rw [if_pos z, if_neg (by omega), if_pos z]
    · rw [if_neg z, if_neg z]
  have e6 : ∀ j, (zLi (zsc A 9 (nI (F' + 1))) c d n (nI F')).2 6 j = if j = 50 * d + n then nI F' else A.2 6 j := fun j => by rw [zLi_n6, zsc_2]
  refine ⟨_, _, fun G M W hC => ?_, h.o6 g (by rw [e1, if_neg (by decide), if_neg (by decide)]) (by rw [zLi_n3]; exact h.2.2.2) hn5 e6, e1, e6, fun j => by rw [zLi_n7, zsc_1, zsc_2, if_neg (show ¬ 8 = 9 by decide)]⟩
  have := ct_X2_makeFile_ok (G := G) hC (hA.wf hJ.wf) hc hvB hn (hA.mw hJ.mw) hFB hF.2 (fun z => hz ((hA.bz d n).mp z)) hlt
  exact zMet.w this (fun i j hv => zVal.sc (zcl1_val i j hv))
theorem pm_link (h : zIv A B t) (ht : t ≤ 600) {c d n f F : Nat} (hc : c < 4) (hd : d < 12) (hv : A.2 3 d = 1) (hn5 : n < 5) (hAF : A.1 9 = nI F) (hF30 : F ≤ 30) (hf : f < F) (hcn : 0 < zcN (zpl A (nI f)) 600) (hfree : A.2 6 (50 * d + n) = -1) : ∃ A' B', zCal mX2_link [.int (nI c), .int (nI d), .int (nI n), .int (nI f)] B (some (.int (nI (zcN (zpl A' (nI f)) 600)))) B' ∧ zIv A' B' (t + 1) ∧ (∀ k, A'.1 k = if k = 8 then A.1 8 + nI 1 else A.1 k) ∧ (∀ j, A'.2 6 j = if j = 50 * d + n then nI f else A.2 6 j) ∧ ∀ j, A'.2 7 j = if j = 50 * d + n then A.1 8 else A.2 7 j := by
  obtain ⟨D, F', T, L, hJ, hA, hl, he, hu⟩ := id h.1
  have hn : n < 50 := by omega
  have hF := hJ.fl
  have hFF : F' = F := by
    have e := hF.1
    rw [hAF] at e
    exact ((nI_eq (by omega) (by have := hF.2; omega)).mp e).symm
  subst hFF
  have hFB : B.1 9 = nI F' := by rw [hA.1]; exact hF.1
  have hvB := hA.val.mpr (show zVal A 3 d from ⟨hd, hv⟩)
  have hz : ¬ zBz A d n := zBz_no h.2.1 hfree
  have g := zRS.lk (c := c) hJ hA hl he hu ht hd hn hv hfree hf
  have hcB : zFn F' (nI f) ∧ 0 < zsm (zkl B (nI f)) 12 := ⟨⟨f, hf, rfl⟩, by rw [← zlinks hJ hA (show f < 30 by omega)]; exact hcn⟩
  refine ⟨zLi A c d n (nI f), _, fun G M W hC => ?_, h.o6 g (by rw [zLi_n1, if_neg (by decide)]) (by rw [zLi_n3]; exact h.2.2.2) hn5 (zLi_n6 A c d n (nI f)), zLi_n1 A c d n (nI f), zLi_n6 A c d n (nI f), zLi_n7 A c d n (nI f)⟩
  have := ct_X2_link_ok (G := G) hC (hA.wf hJ.wf) hc hvB hn (hA.mw hJ.mw) hFB hF.2 (nI f) hcB (fun z => hz ((hA.bz d n).mp z))
  have hone := zcN_one (p := zpl A (nI f)) (q := zpl (zLi A c d n (nI f)) (nI f)) (a := 50 * d + n) (by unfold zpl; rw [decide_eq_true_iff, hfree]; exact fun e => zfv2 (show f < 30 by omega) e.symm) (by unfold zpl; rw [decide_eq_true_iff, zLi_n6, if_pos rfl]) (fun k hk => by unfold zpl; rw [zLi_n6, if_neg hk]) 600
  rw [if_pos (by omega), zlinks hJ hA (show f < 30 by omega)] at hone
  rw [hone]
  exact zMet.w this (fun i j hv => zcl1_val i j hv)
theorem pm_removeFile (h : zIv A B t) (ht : t ≤ 600) {c d n f : Nat} (hc : c < 4) (hd : d < 12) (hv : A.2 3 d = 1) (hn5 : n < 5) (hf30 : f < 30) (hs : A.2 6 (50 * d + n) = nI f) : ∃ A' B', zCal mX2_remove [.int (nI c), .int (nI d), .int (nI n)] B (some (.int (A.2 6 (50 * d + n)))) B' ∧ zIv A' B' (t + 1) ∧ (∀ k, A'.1 k = A.1 k) ∧ (∀ j, A'.2 6 j = if j = 50 * d + n then -1 else A.2 6 j) ∧ ∀ j, A'.2 7 j = A.2 7 j := by
  obtain ⟨D, F, T, L, hJ, hA, hl, he, hu⟩ := id h.1
  have hn : n < 50 := by omega
  have hvB := hA.val.mpr (show zVal A 3 d from ⟨hd, hv⟩)
  have eB6 : B.2 6 (50 * d + n) = A.2 6 (50 * d + n) := by rw [hA.k 6 (by decide)]
  have eBz : zfz B (zfn B d n) = zfz A (zfn A d n) := by rw [hA.fz, hA.fn]
  have g := zRS.rf (c := c) hJ hA hl he hu ht hd hn hv hs hf30
  refine ⟨zRf A c d n, _, fun G M W hC => ?_, h.o6 g (by rw [zRf_1]) (by rw [zRf_n _ _ _ _ (by decide) (by decide) (by decide) (by decide)]; exact h.2.2.2) hn5 (zRf_6 A c d n), fun k => by rw [zRf_1], zRf_6 A c d n, fun j => by rw [zRf_n _ _ _ _ (by decide) (by decide) (by decide) (by decide)]⟩
  have := ct_X2_remove_file (G := G) hC (hA.wf hJ.wf) hc hvB hn (hA.mw hJ.mw) (by rw [eB6, eBz, hs]; exact ⟨zfv2 hf30, zfz_no h.2.1 _⟩) (by rw [eB6, hs]; exact Int32.lt_of_lt_of_le (by decide) (zfv' f hf30).1)
  rw [eB6] at this
  exact zMet.w this (fun i j hv => zcn_val.mp hv)
theorem pm_removeDir (h : zIv A B t) (ht : t ≤ 600) {c d n e : Nat} (hc : c < 4) (hd : d < 12) (hv : A.2 3 d = 1) (hn5 : n < 5) (q1 : e < 12) (q2 : ¬ e = 0) (q3 : A.2 3 e = 1) (q4 : A.2 6 (50 * d + n) = -2 - nI e) (q5 : zpar A e = d) (q6 : znam A e = n) (hem : zcN (zpu A e) 50 = 0) : ∃ A' B', zCal mX2_remove [.int (nI c), .int (nI d), .int (nI n)] B (some (.int (A.2 6 (50 * d + n)))) B' ∧ zIv A' B' (t + 1) ∧ (∀ k, A'.1 k = A.1 k) ∧ (∀ j, A'.2 6 j = if j = 50 * d + n then -1 else A.2 6 j) ∧ ∀ j, A'.2 7 j = A.2 7 j := by
  obtain ⟨D, F, T, L, hJ, hA, hl, he, hu⟩ := id h.1
  have hn : n < 50 := by omega
  have hvB := hA.val.mpr (show zVal A 3 d from ⟨hd, hv⟩)
  have eB6 : B.2 6 (50 * d + n) = A.2 6 (50 * d + n) := by rw [hA.k 6 (by decide)]
  have eBz : zfz B (zfn B d n) = zfz A (zfn A d n) := by rw [hA.fz, hA.fn]
  have hq : ¬ B.2 6 (50 * d + n) = -1 ∧ ¬ zfz B (zfn B d n) = true := by rw [eB6, eBz, q4]; exact ⟨(zdv e q1).2.2, zfz_no h.2.1 _⟩
  have heB : zVal B 3 e := hA.val.mpr ⟨q1, q3⟩
  have hh : ¬ zHd A e := fun z => z.elim (fun y => by omega) (fun y => y.1 h.2.1)
  have hne : ¬ d = e := fun z => q2 (zDp_self (by rw [q5, z]) 11 (hJ.2.2.2.2.2.1 e q1 q3))
  have g := zRS.rd (c := c) hJ hA hl he hu ht hd hn hv q1 q2 q5 q6 q4 hh
  have e6 : ∀ j, (zRd A c d n e).2 6 j = if j = 50 * d + n then -1 else A.2 6 j := fun j => by rw [zRd_n _ _ _ _ _ (by decide) (by decide) (by decide), zRf_6]
  refine ⟨zRd A c d n e, _, fun G M W hC => ?_, h.o6 g (by rw [zRd_1]) (by rw [zRd_3, if_neg (fun z => q2 z.symm)]; exact h.2.2.2) hn5 e6, fun k => by rw [zRd_1], e6, fun j => by rw [zRd_n _ _ _ _ _ (by decide) (by decide) (by decide), zRf_n _ _ _ _ (by decide) (by decide) (by decide) (by decide)]⟩
  have := ct_X2_remove_dir (G := G) hC (hA.wf hJ.wf) hc hvB hn (hA.mw hJ.mw) hq heB (by rw [eB6]; exact q4) (fun z => hh ((hA.hd e).mp z)) hne
  rw [zcn_s3, ← q4] at this
  refine (zMet.w this (fun i j hv => ?_)).mono (fun o M' y => y.nrm (zZ8_1 _ _ _) (fun i k1 k2 => zZ8_n _ _ k1 _) (fun j k1 => ?_) (fun j _ _ _ => by rw [zZ8_n _ _ (by decide)]))
  · exact zcn_val.mp (zVal.dr hv)
  · rw [zZ8_10, if_neg (fun z => ?_)]
    rw [zsa_2, if_pos ⟨rfl, by omega⟩] at k1
    exact absurd k1 (by decide)
theorem zIv.o62 (h : zIv A B t) (g : zRS A' B' (t + 1)) (h16 : A'.1 16 = A.1 16) (h3 : A'.2 3 0 = 1) {d n d2 n2 : Nat} {v w : Int32} (hn : n < 5) (hn2 : n2 < 5) (h6 : ∀ j, A'.2 6 j = if j = 50 * d2 + n2 then v else if j = 50 * d + n then w else A.2 6 j) : zIv A' B' (t + 1) := by
  refine ⟨g, h16.trans h.2.1, fun d' n' h1 h2 h3 => ?_, h3⟩
  rw [h6, if_neg (by omega), if_neg (by omega)]
  exact h.2.2.1 d' n' h1 h2 h3
theorem pm_renameFile (h : zIv A B t) (ht : t ≤ 600) {c d n d2 n2 f F : Nat} (hc : c < 4) (hd : d < 12) (hv : A.2 3 d = 1) (hn5 : n < 5) (hd2 : d2 < 12) (hv2 : A.2 3 d2 = 1) (hn25 : n2 < 5) (hAF : A.1 9 = nI F) (hF30 : F ≤ 30) (hf : f < F) (hs : A.2 6 (50 * d + n) = nI f) (hfr : A.2 6 (50 * d2 + n2) = -1) : ∃ A' B', zCal mX2_rename [.int (nI c), .int (nI d), .int (nI n), .int (nI d2), .int (nI n2)] B none B' ∧ zIv A' B' (t + 1) ∧ (∀ k, A'.1 k = A.1 k) ∧ (∀ j, A'.2 6 j = if j = 50 * d2 + n2 then A.2 6 (50 * d + n) else if j = 50 * d + n then -1 else A.2 6 j) ∧ ∀ j, A'.2 7 j = if j = 50 * d2 + n2 then A.2 7 (50 * d + n) else A.2 7 j := by
  obtain ⟨D, F', T, L, hJ, hA, hl, he, hu⟩ := id h.1
  have hn : n < 50 := by omega
  have hn2 : n2 < 50 := by omega
  have hf30 : f < 30 := by omega
  have hF := hJ.fl
  have hFF : F' = F := by
    have e := hF.1
    rw [hAF] at e
    exact ((nI_eq (by omega) (by have := hF.2; omega)).mp e).symm
  subst hFF
  have hvB := hA.val.mpr (show zVal A 3 d from ⟨hd, hv⟩)
  have hvB2 := hA.val.mpr (show zVal A 3 d2 from ⟨hd2, hv2⟩)
  have eB6 : B.2 6 (50 * d + n) = A.2 6 (50 * d + n) := by rw [hA.k 6 (by decide)]
  have eBz : zfz B (zfn B d n) = zfz A (zfn A d n) := by rw [hA.fz, hA.fn]
  have g := zRS.rn (c := c) hJ hA hl he hu ht hd hn hv hd2 hn2 hv2 hs hf hfr
  refine ⟨zRn A c d n d2 n2, _, fun G M W hC => ?_, h.o62 g (by rw [zRn_1]) (by rw [zRn_n _ _ _ _ _ _ (by decide) (by decide) (by decide) (by decide) (by decide)]; exact h.2.2.2) hn5 hn25 (zRn_6 A c d n d2 n2), fun k => by rw [zRn_1], zRn_6 A c d n d2 n2, zRn_7 A c d n d2 n2⟩
  have := ct_X2_rename_file (G := G) hC (hA.wf hJ.wf) (hA.mw hJ.mw) hc hvB hn hvB2 hn2 (by rw [eB6, eBz, hs]; exact ⟨zfv2 hf30, zfz_no h.2.1 _⟩) (fun z => zBz_no h.2.1 hfr ((hA.bz d2 n2).mp z)) (by rw [eB6, hs]; exact Int32.lt_of_lt_of_le (by decide) (zfv' f hf30).1)
  rw [eB6, hs] at this
  exact zMet.w this (fun i j hv => zcn2_val hv)
theorem pm_renameDir (h : zIv A B t) (ht : t ≤ 600) {c d n d2 n2 e : Nat} (hc : c < 4) (hd : d < 12) (hv : A.2 3 d = 1) (hn5 : n < 5) (hd2 : d2 < 12) (hv2 : A.2 3 d2 = 1) (hn25 : n2 < 5) (q1 : e < 12) (q2 : ¬ e = 0) (q3 : A.2 3 e = 1) (q4 : A.2 6 (50 * d + n) = -2 - nI e) (q5 : zpar A e = d) (q6 : znam A e = n) (hfr : A.2 6 (50 * d2 + n2) = -1) (hb : ¬ zblN A 11 d2 e = true) : ∃ A' B', zCal mX2_rename [.int (nI c), .int (nI d), .int (nI n), .int (nI d2), .int (nI n2)] B none B' ∧ zIv A' B' (t + 1) ∧ (∀ k, A'.1 k = A.1 k) ∧ (∀ j, A'.2 6 j = if j = 50 * d2 + n2 then A.2 6 (50 * d + n) else if j = 50 * d + n then -1 else A.2 6 j) ∧ ∀ j, A'.2 7 j = if j = 50 * d2 + n2 then A.2 7 (50 * d + n) else A.2 7 j := by
  obtain ⟨D, F, T, L, hJ, hA, hl, he, hu⟩ := id h.1
  have hn : n < 50 := by omega
  have hn2 : n2 < 50 := by omega
  have hvB := hA.val.mpr (show zVal A 3 d from ⟨hd, hv⟩)
  have hvB2 := hA.val.mpr (show zVal A 3 d2 from ⟨hd2, hv2⟩)
  have eB6 : B.2 6 (50 * d + n) = A.2 6 (50 * d + n) := by rw [hA.k 6 (by decide)]
  have eBz : zfz B (zfn B d n) = zfz A (zfn A d n) := by rw [hA.fz, hA.fn]
  have heB : zVal B 3 e := hA.val.mpr ⟨q1, q3⟩
  have hq : ¬ B.2 6 (50 * d + n) = -1 ∧ ¬ zfz B (zfn B d n) = true := by rw [eB6, eBz, q4]; exact ⟨(zdv e q1).2.2, zfz_no h.2.1 _⟩
  have hJ' := hJ.re (c := c) hd hn hv hd2 hn2 hv2 q1 q2 q3 q5 q6 q4 hfr hb
  have g := zRS.re hJ hA hl he hu ht hd hn hv hd2 hn2 hv2 q1 q4 (B.2 7 (50 * d + n)) hJ'
  have e6 : ∀ j, (zRe A c d n d2 n2 e).2 6 j = if j = 50 * d2 + n2 then A.2 6 (50 * d + n) else if j = 50 * d + n then -1 else A.2 6 j := fun j => by rw [zRe_n _ _ _ _ _ _ _ (by decide) (by decide), zRn_6]
  refine ⟨zRe A c d n d2 n2 e, _, fun G M W hC => ?_, h.o62 g (by rw [zRe_1]) (by rw [zRe_n _ _ _ _ _ _ _ (by decide) (by decide), zRn_n _ _ _ _ _ _ (by decide) (by decide) (by decide) (by decide) (by decide)]; exact h.2.2.2) hn5 hn25 e6, fun k => by rw [zRe_1], e6, fun j => by rw [zRe_n _ _ _ _ _ _ _ (by decide) (by decide), zRn_7]⟩
  have := ct_X2_rename_dir (G := G) hC (hA.wf hJ.wf) (hA.mw hJ.mw) hc hvB hn hvB2 hn2 hq (fun z => zBz_no h.2.1 hfr ((hA.bz d2 n2).mp z)) heB (by rw [eB6]; exact q4) (by rw [hA.bl 11 d2 e]; exact hb) q2
  exact zMet.w this (fun i j hv => zcn2_val ((zVal.cg (by rw [zsa_n _ _ _ _ _ (by decide), zsa_n _ _ _ _ _ (by decide)]) (by rw [zsa_n _ _ _ _ _ (by decide), zsa_n _ _ _ _ _ (by decide)])).mp hv))
theorem pm_pass (h : zIv A B t) (ht : t ≤ 600) {m : Nat} (h1 : 1 ≤ m) (h2 : m ≤ 8) : ∃ A' B', zCal mX2_pass [.int (nI m)] B (some (.int (A.1 1 + nI m))) B' ∧ zIv A' B' (t + 1) ∧ (∀ k, ¬ k = 1 → A'.1 k = A.1 k) ∧ A'.2 = A.2 := by
  obtain ⟨D, F, T, L, hJ, hA, hl, he, hu⟩ := id h.1
  have hT := hJ.1
  have hm : nI 1 ≤ nI m ∧ nI m ≤ nI 100 := ⟨(nI_leI (by omega) (by omega)).mpr h1, (nI_leI (by omega) (by omega)).mpr (by omega)⟩
  have hz : zRS (zsc A 1 (A.1 1 + nI m)) (zsc B 1 (A.1 1 + nI m)) (t + 1) := by
    refine ⟨D, F, T + m, L, hJ.cg rfl rfl rfl rfl rfl rfl ⟨?_, by omega⟩ ⟨hJ.2.1.1, by have := hJ.2.1.2; omega⟩ rfl rfl (hJ.mm.cg rfl rfl rfl rfl), hA.sc _ _, hl.le ?_ rfl rfl rfl, he.cg rfl rfl rfl, hu.cg rfl rfl rfl⟩
    · rw [zsc_1, if_pos rfl, hT.1, nI_add]
    · rw [zsc_1, if_pos rfl, hT.1, nI_add]
      exact (nI_leI (by omega) (by omega)).mpr (by omega)
  refine ⟨_, _, fun G M W hC => ?_, ⟨hz, h.2.1, h.2.2⟩, fun k hk => by rw [zsc_1, if_neg hk], rfl⟩
  have := ct_X2_pass_ok (G := G) hC hm
  rw [hA.1] at this
  exact zMet.w this (fun i j hv => hv)
theorem pm_lookup (h : zIv A B t) {c d n : Nat} (hc : c < 4) (hd : d < 12) (hv : A.2 3 d = 1) (hn5 : n < 5) : ∃ A' B', zCal mX2_lookup [.int (nI c), .int (nI d), .int (nI n)] B (some (.int (A.2 6 (50 * d + n)))) B' ∧ zIv A' B' (t + 1) ∧ A'.1 = A.1 ∧ A'.2 3 = A.2 3 ∧ A'.2 6 = A.2 6 ∧ A'.2 7 = A.2 7 := by
  obtain ⟨D, F, T, L, hJ, hA, hl, he, hu⟩ := id h.1
  have hn : n < 50 := by omega
  have g := zJ.lookup hA hl hc hd hn hv
  have hdD := hJ.al hd hv
  have hz : zRS (zLk A c d n) (zLk B c d n) (t + 1) := by
    refine ⟨D, F, T, L, hJ.se (zLk_1 _ _ _ _) ?_ ?_ ?_ ?_ ?_ ?_, g.1, g.2, he.cg ?_ ?_ ?_, fun e h1 h2 k hk => ?_⟩
    any_goals exact zLk_2 _ _ _ _ (by decide) (by decide) (by decide)
    obtain ⟨u1, u2, u3⟩ := hu e h1 h2 k hk
    refine ⟨by rw [zLk_2 _ _ _ _ (by decide) (by decide) (by decide)]; exact u1, by rw [zLk_2 _ _ _ _ (by decide) (by decide) (by decide)]; exact u2, fun c hc => ?_⟩
    rw [zLk_13 _ _ _ _ (by omega)]
    exact u3 c hc
  refine ⟨_, _, fun G M W hC => ?_, ⟨hz, by rw [zLk_1]; exact h.2.1, fun d' n' k1 k2 k3 => by rw [zLk_2 _ _ _ _ (by decide) (by decide) (by decide)]; exact h.2.2.1 d' n' k1 k2 k3, by rw [zLk_2 _ _ _ _ (by decide) (by decide) (by decide)]; exact h.2.2.2⟩, zLk_1 _ _ _ _, zLk_2 _ _ _ _ (by decide) (by decide) (by decide), zLk_2 _ _ _ _ (by decide) (by decide) (by decide), zLk_2 _ _ _ _ (by decide) (by decide) (by decide)⟩
  have := ct_X2_lookup_ok (G := G) hC (hA.wf hJ.wf) hc (hA.val.mpr ⟨hd, hv⟩) hn
  rw [hA.k 6 (by decide)] at this
  exact zMet.w this (fun i j hv => (zVal.cg (zLk_2 _ _ _ _ (by decide) (by decide) (by decide)) (zLk_2 _ _ _ _ (by decide) (by decide) (by decide))).mp hv)
end ZPN
