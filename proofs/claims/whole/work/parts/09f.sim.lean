/-! calls on both sides: what is only asked, time, and moves -/
section ZSF
variable {A B : ZA} {t D F T L : Nat}
theorem zBad_c {c d n : Int32} {k : Nat} (h : zBad A c d n k) : (k = 0 + 1 ∧ zen k = zIAE) ∨ (k = 1 + 1 ∧ zen k = zIOB) := by
  rcases h with ⟨rfl, -⟩ | ⟨rfl, -⟩
  · exact Or.inl ⟨rfl, rfl⟩
  · exact Or.inr ⟨rfl, rfl⟩
theorem zBh_c {l : Nat} {d n : Int32} {k : Nat} (h : zBh A l d n k) : (k = 0 + 1 ∧ zen k = zIAE) ∨ (k = 1 + 1 ∧ zen k = zIOB) := by
  rcases h with ⟨rfl, -⟩ | ⟨rfl, -⟩
  · exact Or.inl ⟨rfl, rfl⟩
  · exact Or.inr ⟨rfl, rfl⟩
/-- refused for an argument, or for a directory -/
theorem zSim.kn {y2 y3 : ZY} {As : List Value} {r : Int32 → Option Value} {f : List String} {k : Nat} (hk : (k = 0 + 1 ∧ zen k = zIAE) ∨ (k = 1 + 1 ∧ zen k = zIOB)) (h : zRS A B t) (hf : f[0]? = some zIAE ∧ f[1]? = some zIOB) (v : Int32) (h2 : ∀ (G : ZG) (M : ZM) (W : Nat → Nat → Nat), zC M W B → zMet G y2 (.ref (W 10 0) :: As) M (zthr (zen k) M)) (h3 : ∀ (G : ZG) (M : ZM) (x : Nat) (q : Nat → Nat) (w : Int32), zR M x q w A → zMet G y3 (.ref x :: As) M (zRP x q M (r v) (nI k) A)) : zSim y2 y3 As A B t r f := by
  rcases hk with ⟨rfl, e⟩ | ⟨rfl, e⟩
  · rw [e] at h2
    exact zSim.no 0 zIAE v h hf.1 h2 h3
  · rw [e] at h2
    exact zSim.no 1 zIOB v h hf.2 h2 h3
theorem sm_recalls (h : zRS A B t) (c : Int32) : zSim mX2_recalls mX3_recalls [.int c] A B t zI1 [zIAE] := by
  obtain ⟨D, F, T, L, hJ, hA, hl, he, hu⟩ := id h
  by_cases h1 : zOn c 3
  · obtain ⟨c', hc, rfl⟩ := zOn_N h1
    exact zSim.rd (A.2 14 c') h (fun G M W hC => by rw [← hA.k 14 (by decide)]; exact ct_X2_recalls_ok hC hc) (fun G M x q w hR => ct_X3_recalls_ok hR hc)
  · exact zSim.no 0 zIAE (nI 0) h rfl (fun G M W hC => ct_X2_recalls_bad hC h1) (fun G M x q w hR => ct_X3_recalls_bad hR h1)
theorem sm_known (h : zRS A B t) (c : Int32) : zSim mX2_known mX3_known [.int c] A B t zI1 [zIAE] := by
  obtain ⟨D, F, T, L, hJ, hA, hl, he, hu⟩ := id h
  by_cases h1 : zOn c 3
  · obtain ⟨c', hc, rfl⟩ := zOn_N h1
    exact zSim.rd (A.2 15 c') h (fun G M W hC => by rw [← hA.k 15 (by decide)]; exact ct_X2_known_ok hC hc) (fun G M x q w hR => ct_X3_known_ok hR hc)
  · exact zSim.no 0 zIAE (nI 0) h rfl (fun G M W hC => ct_X2_known_bad hC h1) (fun G M x q w hR => ct_X3_known_bad hR h1)
theorem sm_leases (h : zRS A B t) (c : Int32) : zSim mX2_leases mX3_leases [.int c] A B t zI1 [zIAE] := by
  obtain ⟨D, F, T, L, hJ, hA, hl, he, hu⟩ := id h
  by_cases h1 : zOn c 3
  · obtain ⟨c', hc, rfl⟩ := zOn_N h1
    exact zSim.rd (nI (zcN (zpr A c') 600)) h (fun G M W hC => by rw [zleases hA hl hc]; exact ct_X2_leases_ok hC hc) (fun G M x q w hR => ct_X3_leases_ok hR hc)
  · exact zSim.no 0 zIAE (nI 0) h rfl (fun G M W hC => ct_X2_leases_bad hC h1) (fun G M x q w hR => ct_X3_leases_bad hR h1)
theorem sm_fragments (h : zRS A B t) (d : Int32) : zSim mX2_fragments mX3_fragments [.int d] A B t zI1 [zIOB] := by
  obtain ⟨D, F, T, L, hJ, hA, hl, he, hu⟩ := id h
  by_cases h1 : zIsD A d
  · obtain ⟨d', hd, rfl, hv⟩ := h1
    exact zSim.rd (nI (zcN (zps A d') 8)) h (fun G M W hC => by rw [zcount hJ hA hd]; exact ct_X2_fragments_ok hC (hA.val.mpr ⟨hd, hv⟩) (hA.fr hJ.wf.2.1)) (fun G M x q w hR => ct_X3_fragments_ok hR hJ.wf hd hv)
  · exact zSim.no 0 zIOB (nI 0) h rfl (fun G M W hC => ct_X2_fragments_bad hC (fun z => h1 ((hA.isD d).mp z))) (fun G M x q w hR => ct_X3_fragments_bad hR hJ.wf h1)
theorem sm_size (h : zRS A B t) (d : Int32) : zSim mX2_size mX3_size [.int d] A B t zI1 [zIOB] := by
  obtain ⟨D, F, T, L, hJ, hA, hl, he, hu⟩ := id h
  by_cases h1 : zIsD A d
  · obtain ⟨d', hd, rfl, hv⟩ := h1
    exact zSim.rd (nI (zcN (zpu A d') 50)) h (fun G M W hC => by rw [← hA.pu]; exact ct_X2_size_ok hC (hA.val.mpr ⟨hd, hv⟩)) (fun G M x q w hR => ct_X3_size_ok hR hJ.wf hd hv)
  · exact zSim.no 0 zIOB (nI 0) h rfl (fun G M W hC => ct_X2_size_bad hC (fun z => h1 ((hA.isD d).mp z))) (fun G M x q w hR => ct_X3_size_bad hR hJ.wf h1)
theorem sm_serverOf (h : zRS A B t) (d n : Int32) : zSim mX2_serverOf mX3_serverOf [.int d, .int n] A B t zI1 [zIAE, zIOB] := by
  obtain ⟨D, F, T, L, hJ, hA, hl, he, hu⟩ := id h
  rcases zBh_or A 49 d n with ⟨k, hk⟩ | ⟨d', n', rfl, hd, hv, rfl, hn⟩
  · exact zSim.kn (zBh_c hk) h ⟨rfl, rfl⟩ (nI 0) (fun G M W hC => ct_X2_serverOf_bad hC (hA.bh hk)) (fun G M x q w hR => ct_X3_serverOf_bad hR hJ.wf hk)
  · exact zSim.rd (zsv A (zfn A d' n')) h (fun G M W hC => by rw [← hA.sv, ← hA.fn]; exact ct_X2_serverOf_ok hC (hA.wf hJ.wf) (hA.val.mpr ⟨hd, hv⟩) hn) (fun G M x q w hR => ct_X3_serverOf_ok hR hJ.wf hd hv hn)
theorem sm_ownerOf (h : zRS A B t) (d n : Int32) : zSim mX2_ownerOf mX3_ownerOf [.int d, .int n] A B t zI1 [zIAE, zIOB] := by
  obtain ⟨D, F, T, L, hJ, hA, hl, he, hu⟩ := id h
  rcases zBh_or A 7 d n with ⟨k, hk⟩ | ⟨d', n', rfl, hd, hv, rfl, hn⟩
  · exact zSim.kn (zBh_c hk) h ⟨rfl, rfl⟩ (nI 0) (fun G M W hC => ct_X2_ownerOf_bad hC (hA.bh hk)) (fun G M x q w hR => ct_X3_ownerOf_bad hR hJ.wf hk)
  · exact zSim.rd (A.2 11 (8 * d' + zfg (A.2 10) d' n')) h (fun G M W hC => by rw [← hA.k 11 (by decide), ← hA.k 10 (by decide)]; exact ct_X2_ownerOf_ok hC (hA.wf hJ.wf) (hA.val.mpr ⟨hd, hv⟩) hn) (fun G M x q w hR => ct_X3_ownerOf_ok hR hJ.wf hd hv hn)
theorem sm_byTree (h : zRS A B t) (d n : Int32) : zSim mX2_byTree mX3_byTree [.int d, .int n] A B t zI1 [zIAE, zIOB] := by
  obtain ⟨D, F, T, L, hJ, hA, hl, he, hu⟩ := id h
  rcases zBh_or A 49 d n with ⟨k, hk⟩ | ⟨d', n', rfl, hd, hv, rfl, hn⟩
  · exact zSim.kn (zBh_c hk) h ⟨rfl, rfl⟩ (nI 0) (fun G M W hC => ct_X2_byTree_bad hC (hA.bh hk)) (fun G M x q w hR => ct_X3_byTree_bad hR hJ.wf hk)
  · exact zSim.rd (A.2 6 (50 * d' + n')) h (fun G M W hC => by rw [← hA.k 6 (by decide)]; exact ct_X2_byTree_ok hC (hA.wf hJ.wf) (hA.val.mpr ⟨hd, hv⟩) hn) (fun G M x q w hR => ct_X3_byTree_ok hR hJ.wf hd hv hn)
theorem sm_isFrozen (h : zRS A B t) (d n : Int32) : zSim mX2_isFrozen mX3_isFrozen [.int d, .int n] A B t zI1 [zIAE, zIOB] := by
  obtain ⟨D, F, T, L, hJ, hA, hl, he, hu⟩ := id h
  rcases zBh_or A 49 d n with ⟨k, hk⟩ | ⟨d', n', rfl, hd, hv, rfl, hn⟩
  · exact zSim.kn (zBh_c hk) h ⟨rfl, rfl⟩ (nI 0) (fun G M W hC => ct_X2_isFrozen_bad hC (hA.bh hk)) (fun G M x q w hR => ct_X3_isFrozen_bad hR hJ.wf hk)
  · by_cases hz : zfz A (zfn A d' n') = true
    · exact zSim.rd (nI 1) h (fun G M W hC => ct_X2_isFrozen_yes hC (hA.wf hJ.wf) (hA.val.mpr ⟨hd, hv⟩) hn (hA.mw hJ.mw) (by rw [hA.fn, hA.fz]; exact hz)) (fun G M x q w hR => ct_X3_isFrozen_yes hR hJ.wf hd hv hn hz)
    · exact zSim.rd (nI 0) h (fun G M W hC => ct_X2_isFrozen_no hC (hA.wf hJ.wf) (hA.val.mpr ⟨hd, hv⟩) hn (hA.mw hJ.mw) (by rw [hA.fn, hA.fz]; exact hz)) (fun G M x q w hR => ct_X3_isFrozen_no hR hJ.wf hd hv hn hz)
theorem sm_load (h : zRS A B t) (s : Int32) : zSim mX2_load mX3_load [.int s] A B t zI1 [zIAE] := by
  obtain ⟨D, F, T, L, hJ, hA, hl, he, hu⟩ := id h
  by_cases h1 : zOn s 3
  · exact zSim.rd (zlS A s (8 * D)) h (fun G M W hC => by rw [zload hJ hA]; exact ct_X2_load_ok hC (hA.wf hJ.wf) h1) (fun G M x q w hR => ct_X3_load_ok hR hJ.wf hJ.dz hJ.bas.1 hJ.bas.2.2.1 h1)
  · exact zSim.no 0 zIAE (nI 0) h rfl (fun G M W hC => ct_X2_load_bad hC h1) (fun G M x q w hR => ct_X3_load_bad hR h1)
theorem zJ.fl (h : zJ A t D F T L) : A.1 9 = nI F ∧ F ≤ 30 := h.2.2.1
theorem sm_links (h : zRS A B t) (f : Int32) : zSim mX2_links mX3_links_ [.int f] A B t zI1 [zIOB] := by
  obtain ⟨D, F, T, L, hJ, hA, hl, he, hu⟩ := id h
  have hF := hJ.fl
  have hFB : B.1 9 = nI F := by rw [hA.1]; exact hF.1
  by_cases h1 : zFn F f
  · obtain ⟨f', hf', rfl⟩ := id h1
    exact zSim.rd (nI (zcN (zpl A (nI f')) 600)) h (fun G M W hC => by rw [zlinks hJ hA (show f' < 30 by omega)]; exact ct_X2_links_ok hC hFB hF.2 h1) (fun G M x q w hR => ct_X3_links__ok hR hF.1 hF.2 h1)
  · exact zSim.no 0 zIOB (nI 0) h rfl (fun G M W hC => ct_X2_links_bad hC hFB hF.2 h1) (fun G M x q w hR => ct_X3_links__bad hR hF.1 hF.2 h1)
theorem sm_anchor (h : zRS A B t) (ht : t ≤ 600) (f : Int32) : zSim mX2_anchor mX3_anchor [.int f] A B t zI1 [zIOB] := by
  obtain ⟨D, F, T, L, hJ, hA, hl, he, hu⟩ := id h
  have hF := hJ.fl
  have hFB : B.1 9 = nI F := by rw [hA.1]; exact hF.1
  by_cases h1 : zFn F f
  · obtain ⟨f', hf', rfl⟩ := id h1
    have hL := hJ.2.1.2
    rcases zanc2 hJ hA he (show L ≤ 600 by omega) (f := f') (by omega) 12 (Nat.le_refl _) with ⟨e1, e2⟩ | ⟨i, e1, e2⟩
    · exact zSim.rd (-1) h (fun G M W hC => by have := ct_X2_anchor_ok (G := G) hC hFB hF.2 h1; rw [e2] at this; exact this) (fun G M x q w hR => ct_X3_anchor_none hR hF.1 hF.2 h1 e1)
    · exact zSim.rd (zAv (some i)) h (fun G M W hC => by have := ct_X2_anchor_ok (G := G) hC hFB hF.2 h1; rw [e2] at this; exact this) (fun G M x q w hR => ct_X3_anchor_some hR hF.1 hF.2 h1 e1)
  · exact zSim.no 0 zIOB (nI 0) h rfl (fun G M W hC => ct_X2_anchor_bad hC hFB hF.2 h1) (fun G M x q w hR => ct_X3_anchor_bad hR hF.1 hF.2 h1)
theorem zLs.le (h : zLs A B) {A' B' : ZA} (h1 : A.1 1 ≤ A'.1 1) (h3 : A'.2 3 = A.2 3) (ha : A'.2 13 = A.2 13) (hb : B'.2 13 = B.2 13) : zLs A' B' := by
  intro c d n k1 k2 k3
  have g := h c d n k1 k2 k3
  rw [h3, ha, hb]
  exact ⟨fun z => (g.1 z).imp id (fun y => ⟨Int32.le_trans y.1 h1, Int32.le_trans y.2 h1⟩), fun z => Int32.le_trans (g.2 z) h1⟩
theorem sm_pass (h : zRS A B t) (ht : t ≤ 600) (m : Int32) : zSim mX2_pass mX3_pass [.int m] A B t zI1 [zIAE] := by
  obtain ⟨D, F, T, L, hJ, hA, hl, he, hu⟩ := id h
  by_cases h1 : nI 1 ≤ m ∧ m ≤ nI 100
  · obtain ⟨m', hm', rfl⟩ := (zOn_iff (k := 100) (by decide)).mp ⟨Int32.le_trans (by decide) h1.1, h1.2⟩
    have hT := hJ.1
    have hz : zRS (zsc A 1 (A.1 1 + nI m')) (zsc B 1 (A.1 1 + nI m')) (t + 1) := by
      refine ⟨D, F, T + m', L, hJ.cg rfl rfl rfl rfl rfl rfl ⟨?_, by omega⟩ ⟨hJ.2.1.1, by have := hJ.2.1.2; omega⟩ rfl rfl (hJ.mm.cg rfl rfl rfl rfl), hA.sc _ _, hl.le ?_ rfl rfl rfl, he.cg rfl rfl rfl, hu.cg rfl rfl rfl⟩
      · rw [zsc_1, if_pos rfl, hT.1, nI_add]
      · rw [zsc_1, if_pos rfl, hT.1, nI_add]
        exact (nI_leI (by omega) (by omega)).mpr (by omega)
    refine zSim.ok (A.1 1 + nI m') _ _ hz (fun G M W hC => ?_) (fun G M x q w hR => ct_X3_pass_ok hR h1)
    have := ct_X2_pass_ok (G := G) hC h1
    rw [hA.1] at this
    exact zMet.w this (fun i j hv => hv)
  · exact zSim.no 0 zIAE (nI 0) h rfl (fun G M W hC => ct_X2_pass_bad hC h1) (fun G M x q w hR => ct_X3_pass_bad hR h1)
theorem zJ.lookup (hA : zAg A B) (hl : zLs A B) {c d n : Nat} (hc : c < 4) (hd : d < 12) (hn : n < 50) (hv : A.2 3 d = 1) : zAg (zLk A c d n) (zLk B c d n) ∧ zLs (zLk A c d n) (zLk B c d n) := by
  have hr := hl.run hc hd hn hv
  unfold zLk
  rw [hA.1]
  by_cases h1 : A.1 1 < A.2 13 (600 * c + (50 * d + n))
  · rw [if_pos h1, if_pos (hr.mpr h1), hA.k 15 (by decide)]
    exact ⟨hA.sa _ _ _, hl.cg rfl (zsa_n _ _ _ _ _ (by decide)) (zsa_n _ _ _ _ _ (by decide)) (zsa_n _ _ _ _ _ (by decide))⟩
  · rw [if_neg h1, if_neg (fun z => h1 (hr.mp z)), hA.fn, hA.k 12 (by decide)]
    have g : zLs (zsa A 12 (zfn A d n) (A.2 12 (zfn A d n) + nI 1)) (zsa B 12 (zfn A d n) (A.2 12 (zfn A d n) + nI 1)) := hl.cg rfl (zsa_n _ _ _ _ _ (by decide)) (zsa_n _ _ _ _ _ (by decide)) (zsa_n _ _ _ _ _ (by decide))
    refine ⟨(hA.sa 12 _ _).sa 13 _ _, g.set (Or.inl rfl) (fun c' d' n' _ h2 h3 e => ?_)⟩
    rw [zsa_n _ _ _ _ _ (by decide), (zdj h2 h3 hd hn e).2.1]
    exact hv
theorem zLk_1 (A : ZA) (c d n : Nat) : (zLk A c d n).1 = A.1 := by
  unfold zLk
  split <;> rfl
theorem zLk_2 (A : ZA) (c d n : Nat) {i : Nat} (h1 : i ≠ 12) (h2 : i ≠ 13) (h3 : i ≠ 15) : (zLk A c d n).2 i = A.2 i := by
  unfold zLk
  split
  · rw [zsa_n _ _ _ _ _ h3]
  · rw [zsa_n _ _ _ _ _ h2, zsa_n _ _ _ _ _ h1]
theorem zLk_13 (A : ZA) (c d n : Nat) {j : Nat} (h : j ≠ 600 * c + (50 * d + n)) : (zLk A c d n).2 13 j = A.2 13 j := by
  unfold zLk
  split
  · rw [zsa_n _ _ _ _ _ (by decide)]
  · rw [zsa_2, if_neg (fun z => h z.2), zsa_n _ _ _ _ _ (by decide)]
theorem sm_lookup (h : zRS A B t) (c d n : Int32) : zSim mX2_lookup mX3_lookup [.int c, .int d, .int n] A B t zI1 [zIAE, zIOB] := by
  obtain ⟨D, F, T, L, hJ, hA, hl, he, hu⟩ := id h
  rcases zGd_or A c d n with ⟨k, hk⟩ | ⟨c', d', n', rfl, hc, rfl, hd, hv, rfl, hn⟩
  · exact zSim.kn (zBad_c hk) h ⟨rfl, rfl⟩ (nI 0) (fun G M W hC => ct_X2_lookup_bad hC (hA.bad hk)) (fun G M x q w hR => ct_X3_lookup_bad hR hJ.wf hk)
  · have g := zJ.lookup hA hl hc hd hn hv
    have hdD := hJ.al hd hv
    have hz : zRS (zLk A c' d' n') (zLk B c' d' n') (t + 1) := by
      refine ⟨D, F, T, L, hJ.se (zLk_1 _ _ _ _) ?_ ?_ ?_ ?_ ?_ ?_, g.1, g.2, he.cg ?_ ?_ ?_, fun e h1 h2 k hk => ?_⟩
      any_goals exact zLk_2 _ _ _ _ (by decide) (by decide) (by decide)
      obtain ⟨u1, u2, u3⟩ := hu e h1 h2 k hk
      refine ⟨by rw [zLk_2 _ _ _ _ (by decide) (by decide) (by decide)]; exact u1, by rw [zLk_2 _ _ _ _ (by decide) (by decide) (by decide)]; exact u2, fun c hc => ?_⟩
      rw [zLk_13 _ _ _ _ (by omega)]
      exact u3 c hc
    refine zSim.ok (A.2 6 (50 * d' + n')) _ _ hz (fun G M W hC => ?_) (fun G M x q w hR => ct_X3_lookup_ok hR hJ.wf hc hd hv hn)
    have := ct_X2_lookup_ok (G := G) hC (hA.wf hJ.wf) hc (hA.val.mpr ⟨hd, hv⟩) hn
    rw [hA.k 6 (by decide)] at this
    exact zMet.w this (fun i j hv => (zVal.cg (zLk_2 _ _ _ _ (by decide) (by decide) (by decide)) (zLk_2 _ _ _ _ (by decide) (by decide) (by decide))).mp hv)
end ZSF
