/-! calls on both sides: moves -/
section ZSG
variable {A B A' B' : ZA} {t D F T L : Nat}
theorem zOn_m1 {s : Int32} {k : Nat} (hk : k < 2 ^ 30) (h : zOn s k) : ¬ s = -1 := by
  obtain ⟨j, hj, rfl⟩ := h
  exact nI_ne1 (by omega)
theorem zHc.gz {S : Nat → Int32} {d : Nat} {c : List Nat} (hc : zHc S d c) {h : Nat} (hh : h < 8) : ¬ S (8 * d + zfg S d h) = 0 := by
  have h1 := zgN_le c h
  rw [hc.g hh, hc.z (by omega)]
  have := (zcf_s c hc.1 h hh).1
  omega
/-- where a move begins -/
theorem zRS.mo (hJ : zJ A t D F T L) (hA : zAg A B) (hl : zLs A B) (he : zAe A B L) (hu : zUm B D) {f : Nat} (hf : f < 96) (hv : A.2 3 (f / 8) = 1) (hz : ¬ A.2 10 f = 0) {s : Int32} (hs : ¬ s = -1) : zJ (zMo A (nI f) s) (t + 1) D F T L ∧ zAg (zMo A (nI f) s) (zMo B (nI f) s) ∧ zLs (zMo A (nI f) s) (zMo B (nI f) s) ∧ zAe (zMo A (nI f) s) (zMo B (nI f) s) L ∧ zUm (zMo B (nI f) s) D :=
  ⟨hJ.cg rfl rfl rfl rfl rfl rfl ⟨hJ.1.1, by have := hJ.1.2; omega⟩ ⟨hJ.2.1.1, by have := hJ.2.1.2; omega⟩ rfl rfl (Or.inr ⟨f, hf, rfl, hv, hz, hs⟩), ((hA.sc 16 _).sc 17 _).sc 18 _, hl.cg rfl rfl rfl rfl, he.cg rfl rfl rfl, hu.cg rfl rfl rfl⟩
theorem zMo_val {f s : Int32} {i j : Nat} : zVal (zMo A f s) i j ↔ zVal A i j := Iff.rfl
/-- all leases on frozen names end: a directory -/
theorem zrc1 {X Y : ZA} (hs : zSme A X) (hA : zAg X Y) (hl : zLs X Y) {d : Nat} (hd : d < 12) (hv : A.2 3 d = 1) (h0 : nI 0 ≤ A.1 1) (hX : zRc A (50 * d) = X) : ∀ n, n ≤ 50 → zAg (zRc A (50 * d + n)) (zrf Y d n) ∧ zLs (zRc A (50 * d + n)) (zrf Y d n)
  | 0, _ => by
    show zAg (zRc A (50 * d)) Y ∧ zLs (zRc A (50 * d)) Y
    rw [hX]
    exact ⟨hA, hl⟩
  | n + 1, hn => by
    have ih := zrc1 hs hA hl hd hv h0 hX n (by omega)
    have e : zfz Y (zfn Y d n) = zfz A (zfn A d n) := by
      rw [hA.fz, hA.fn, hs.fn]
      exact hs.fz 12 _
    have e1 : (50 * d + n) / 50 = d := by omega
    have e2 : (50 * d + n) % 50 = n := by omega
    show zAg (zRc A (50 * d + n + 1)) (zrf Y d (n + 1)) ∧ zLs (zRc A (50 * d + n + 1)) (zrf Y d (n + 1))
    rw [zRc, zrf, e, e1, e2]
    have hs2 := zRc_sme A (50 * d + n)
    by_cases g : zfz A (zfn A d n) = true
    · rw [if_pos ⟨hv, g⟩, if_pos g]
      exact zEl ih.1 ih.2 hd (by omega) (by rw [hs2.2 3 (by decide) (by decide)]; exact hv) (-1) (by rw [hs2.1]; exact h0) 4 (Nat.le_refl _)
    · rw [if_neg (fun z => g z.2), if_neg g]
      exact ih
theorem zrc0 {d : Nat} (hv : ¬ A.2 3 d = 1) : ∀ n, n ≤ 50 → zRc A (50 * d + n) = zRc A (50 * d)
  | 0, _ => rfl
  | n + 1, hn => by
    show zRc A (50 * d + n + 1) = _
    rw [zRc, if_neg (fun z => hv (by have := z.1; rwa [show (50 * d + n) / 50 = d by omega] at this)), zrc0 hv n (by omega)]
theorem zrc2 (hA : zAg A B) (hl : zLs A B) (h0 : nI 0 ≤ A.1 1) : ∀ k, k ≤ 12 → zAg (zRc A (50 * k)) (zra B k) ∧ zLs (zRc A (50 * k)) (zra B k)
  | 0, _ => ⟨hA, hl⟩
  | k + 1, hk => by
    have ih := zrc2 hA hl h0 k (by omega)
    rw [zra, hA.k 3 (by decide), Nat.mul_succ]
    by_cases hv : A.2 3 k = 1
    · rw [if_pos hv]
      exact zrc1 (zRc_sme A (50 * k)) ih.1 ih.2 (by omega) hv h0 rfl 50 (Nat.le_refl _)
    · rw [if_neg hv, zrc0 hv 50 (Nat.le_refl _)]
      exact ih
theorem zrc3 (h : ∀ d, d < 12 → D ≤ d → ¬ A.2 3 d = 1) : ∀ n, D + n ≤ 12 → zRc A (50 * (D + n)) = zRc A (50 * D)
  | 0, _ => rfl
  | n + 1, hn => by
    rw [show 50 * (D + (n + 1)) = 50 * (D + n) + 50 by omega, zrc0 (h (D + n) (by omega) (by omega)) 50 (Nat.le_refl _)]
    exact zrc3 h n (by omega)
theorem zSme.val' (h : zSme A A') : ∀ i j, zVal A' i j → zVal A i j := fun _ _ hv => h.val.mp hv
theorem zNv.cgm (h : zNv B D) (h6 : B'.2 6 = B.2 6) (h7 : B'.2 7 = B.2 7) (h13 : ∀ c k, c < 4 → k < 50 → B'.2 13 (600 * c + (50 * D + k)) = B.2 13 (600 * c + (50 * D + k))) : zNv B' D := fun k hk => by
  obtain ⟨h1, h2, h3⟩ := h k hk
  exact ⟨by rw [h6]; exact h1, by rw [h7]; exact h2, fun c hc => by rw [h13 c k hc hk]; exact h3 c hc⟩
/-- .. nothing there of directories that are not there -/
theorem zrf_13 (B : ZA) {d e : Nat} (hd : d < 12) (he : e < 12) (hne : d ≠ e) {c k : Nat} (hc : c < 4) (hk : k < 50) : ∀ n, n ≤ 50 → (zrf B d n).2 13 (600 * c + (50 * e + k)) = B.2 13 (600 * c + (50 * e + k))
  | 0, _ => rfl
  | n + 1, hn => by
    have ih := zrf_13 B hd he hne hc hk n (by omega)
    unfold zrf
    split
    · rw [zel_13 _ _ _ 4 (fun c' _ => by omega)]
      exact ih
    · exact ih
theorem zra_13 (B : ZA) {e : Nat} (he : e < 12) (hv : ¬ B.2 3 e = 1) {c k : Nat} (hc : c < 4) (hk : k < 50) : ∀ n, n ≤ 12 → (zra B n).2 13 (600 * c + (50 * e + k)) = B.2 13 (600 * c + (50 * e + k))
  | 0, _ => rfl
  | n + 1, hn => by
    have ih := zra_13 B he hv hc hk n (by omega)
    unfold zra
    split
    · rename_i h1
      rw [zrf_13 _ (by omega) he (fun z => hv (by rw [← z]; exact h1)) hc hk 50 (Nat.le_refl _)]
      exact ih
    · exact ih
theorem zSt1_j (hJ : zJ A t D F T L) : zJ (zSt1 A) (t + 1) D F T L := hJ.cg rfl rfl rfl rfl rfl rfl ⟨hJ.1.1, by have := hJ.1.2; omega⟩ ⟨hJ.2.1.1, by have := hJ.2.1.2; omega⟩ rfl rfl (hJ.mm.cg rfl rfl rfl rfl)
theorem zSt1_a (hA : zAg A B) : zAg (zSt1 A) (zSt1 B) := by
  unfold zSt1
  rw [hA.1]
  exact hA.sc _ _
/-- an owner changes -/
theorem zJ.own (h : zJ A t D F T L) {m : Nat} {s : Int32} (hs : ¬ s = -1) : zJ (zsa A 11 m s) t D F T L := by
  obtain ⟨j1, j2, j3, j4, j5, j6, j7, j8, j9, j10, j11⟩ := h
  refine ⟨j1, j2, j3, j4, ⟨j5.1, fun y h1 h2 => ?_⟩, fun d h1 h2 => (zDp.cg rfl rfl rfl 11 d).mpr (j6 d h1 h2), j7, j8, j9, j10, j11⟩
  rw [zsa_2]
  by_cases e : y = m
  · rw [if_pos ⟨rfl, e⟩]
    exact hs
  · rw [if_neg (fun z => e z.2)]
    exact j5.2 y h1 h2
end ZSG
