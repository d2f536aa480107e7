/-! the class: a new directory among the others -/
theorem zBg_1 (A : ZA) (d : Nat) (o : Int32) : ∀ k, (zBg A d o k).1 = A.1
  | 0 => rfl
  | k + 1 => zBg_1 A d o k
theorem zBg_n (A : ZA) (d : Nat) (o : Int32) {i : Nat} (h3 : i ≠ 3) (h10 : i ≠ 10) (h11 : i ≠ 11) (h12 : i ≠ 12) : ∀ k, (zBg A d o k).2 i = A.2 i
  | 0 => by rw [zBg, zsa_n _ _ _ _ _ h3]
  | k + 1 => by rw [zBg, zsa_n _ _ _ _ _ h12, zsa_n _ _ _ _ _ h11, zsa_n _ _ _ _ _ h10]; exact zBg_n A d o h3 h10 h11 h12 k
theorem zBg_3 (A : ZA) (d : Nat) (o : Int32) (j : Nat) : ∀ k, (zBg A d o k).2 3 j = if j = d then nI 1 else A.2 3 j
  | 0 => by
    rw [zBg, zsa_2]
    exact ite_congr (propext ⟨fun z => z.2, fun z => ⟨rfl, z⟩⟩) (fun _ => rfl) (fun _ => rfl)
  | k + 1 => by rw [zBg, zsa_n _ _ _ _ _ (by decide), zsa_n _ _ _ _ _ (by decide), zsa_n _ _ _ _ _ (by decide)]; exact zBg_3 A d o j k
theorem zBg_10 (A : ZA) (d : Nat) (o : Int32) (j : Nat) : ∀ k, (zBg A d o k).2 10 j = if 8 * d ≤ j ∧ j < 8 * d + k then (if j = 8 * d then nI 8 else nI 0) else A.2 10 j
  | 0 => by rw [zBg, zsa_n _ _ _ _ _ (by decide), if_neg (by omega)]
  | k + 1 => by
    rw [zBg, zsa_n _ _ _ _ _ (by decide), zsa_n _ _ _ _ _ (by decide), zsa_2]
    by_cases e : j = 8 * d + k
    · rw [if_pos ⟨rfl, e⟩, if_pos (show 8 * d ≤ j ∧ j < 8 * d + (k + 1) by omega)]
      exact ite_congr (propext (by omega)) (fun _ => rfl) (fun _ => rfl)
    · rw [if_neg (fun z => e z.2), zBg_10 A d o j k]
      exact ite_congr (propext (by omega)) (fun _ => rfl) (fun _ => rfl)
theorem zBg_11 (A : ZA) (d : Nat) (o : Int32) (j : Nat) : ∀ k, (zBg A d o k).2 11 j = if 8 * d ≤ j ∧ j < 8 * d + k then (if j = 8 * d then o else -1) else A.2 11 j
  | 0 => by rw [zBg, zsa_n _ _ _ _ _ (by decide), if_neg (by omega)]
  | k + 1 => by
    rw [zBg, zsa_n _ _ _ _ _ (by decide), zsa_2]
    by_cases e : j = 8 * d + k
    · rw [if_pos ⟨rfl, e⟩, if_pos (show 8 * d ≤ j ∧ j < 8 * d + (k + 1) by omega)]
      exact ite_congr (propext (by omega)) (fun _ => rfl) (fun _ => rfl)
    · rw [if_neg (fun z => e z.2), zsa_n _ _ _ _ _ (by decide), zBg_11 A d o j k]
      exact ite_congr (propext (by omega)) (fun _ => rfl) (fun _ => rfl)
theorem zBg_12 (A : ZA) (d : Nat) (o : Int32) (j : Nat) : ∀ k, (zBg A d o k).2 12 j = if 8 * d ≤ j ∧ j < 8 * d + k then nI 0 else A.2 12 j
  | 0 => by rw [zBg, zsa_n _ _ _ _ _ (by decide), if_neg (by omega)]
  | k + 1 => by
    rw [zBg, zsa_2]
    by_cases e : j = 8 * d + k
    · rw [if_pos ⟨rfl, e⟩, if_pos (by omega)]
    · rw [if_neg (fun z => e z.2), zsa_n _ _ _ _ _ (by decide), zsa_n _ _ _ _ _ (by decide), zBg_12 A d o j k]
      exact ite_congr (propext (by omega)) (fun _ => rfl) (fun _ => rfl)
/-- the addresses with the new directory's -/
def zWn (W : Nat → Nat → Nat) (x : Nat) (nu : Nat → Nat) (D i j : Nat) : Nat := match i with
  | 3 => if j = D then x else W 3 j
  | 4 => if j = D then nu 0 else W 4 j
  | 5 => if j = D then nu 1 else W 5 j
  | 6 => if j = D then nu 2 else W 6 j
  | 7 => if j / 4 = D then nu (5 + j % 4) else W 7 j
  | 8 => if j = D then nu 3 else W 8 j
  | 9 => if j = 8 * D then nu 4 else W 9 j
  | i => W i j
/-- the state with a new directory D, at p with the name n -/
def zNd (B : ZA) (D p : Nat) (n o : Int32) : ZA := zBg (zsa (zsa B 4 D (nI p)) 5 D n) D o 8
/-- nothing is left of D -/
def zNv (B : ZA) (D : Nat) : Prop := ∀ k, k < 50 → B.2 6 (50 * D + k) = -1 ∧ B.2 7 (50 * D + k) = 0 ∧ ∀ c, c < 4 → B.2 13 (600 * c + (50 * D + k)) = 0
/-- what is of the new directory -/
def zIn (D i j : Nat) : Prop := match i with
  | 3 => j = D
  | 4 => j = D
  | 5 => j = D
  | 6 => j = D
  | 7 => j / 4 = D
  | 8 => j = D
  | 9 => j = 8 * D
  | _ => False
/-- which address it has: 0 the directory -/
def zKp (i j : Nat) : Nat := match i with
  | 3 => 0
  | 4 => 1
  | 5 => 2
  | 6 => 3
  | 7 => 6 + j % 4
  | 8 => 4
  | _ => 5
theorem zIn_k {D i j : Nat} (h : zIn D i j) : (i = 3 ∧ j = D ∧ zKp i j = 0) ∨ (i = 4 ∧ j = D ∧ zKp i j = 1) ∨ (i = 5 ∧ j = D ∧ zKp i j = 2) ∨ (i = 6 ∧ j = D ∧ zKp i j = 3) ∨ (i = 7 ∧ j / 4 = D ∧ zKp i j = 6 + j % 4) ∨ (i = 8 ∧ j = D ∧ zKp i j = 4) ∨ (i = 9 ∧ j = 8 * D ∧ zKp i j = 5) := by
  unfold zIn at h
  split at h
  · exact Or.inl ⟨rfl, h, rfl⟩
  · exact Or.inr (Or.inl ⟨rfl, h, rfl⟩)
  · exact Or.inr (Or.inr (Or.inl ⟨rfl, h, rfl⟩))
  · exact Or.inr (Or.inr (Or.inr (Or.inl ⟨rfl, h, rfl⟩)))
  · exact Or.inr (Or.inr (Or.inr (Or.inr (Or.inl ⟨rfl, h, rfl⟩))))
  · exact Or.inr (Or.inr (Or.inr (Or.inr (Or.inr (Or.inl ⟨rfl, h, rfl⟩)))))
  · exact Or.inr (Or.inr (Or.inr (Or.inr (Or.inr (Or.inr (⟨rfl, h, rfl⟩))))))
  · exact h.elim
theorem zIn_inj {D i j i' j' : Nat} (h1 : zIn D i j) (h2 : zIn D i' j') (e : zKp i j = zKp i' j') : i = i' ∧ j = j' := by
  have g1 := zIn_k h1
  have g2 := zIn_k h2
  omega
theorem zWn_in {W : Nat → Nat → Nat} {x : Nat} {nu : Nat → Nat} {D i j : Nat} (h : zIn D i j) : zWn W x nu D i j = (if zKp i j = 0 then x else nu (zKp i j - 1)) ∧ zKp i j < 10 := by
  unfold zIn at h
  split at h <;> first | exact h.elim | skip
  · exact ⟨(if_pos h).trans rfl, show 0 < 10 by decide⟩
  · exact ⟨(if_pos h).trans rfl, show 1 < 10 by decide⟩
  · exact ⟨(if_pos h).trans rfl, show 2 < 10 by decide⟩
  · exact ⟨(if_pos h).trans rfl, show 3 < 10 by decide⟩
  · exact ⟨(if_pos h).trans (by rw [show zKp 7 j = 6 + j % 4 from rfl, if_neg (by omega)]; exact congrArg nu (by omega)), by rw [show zKp 7 j = 6 + j % 4 from rfl]; omega⟩
  · exact ⟨(if_pos h).trans rfl, show 4 < 10 by decide⟩
  · exact ⟨(if_pos h).trans rfl, show 5 < 10 by decide⟩
theorem zWn_out {W : Nat → Nat → Nat} {x : Nat} {nu : Nat → Nat} {D i j : Nat} (h : ¬ zIn D i j) : zWn W x nu D i j = W i j := by
  unfold zIn at h
  unfold zWn
  split at h <;> first | exact if_neg h | skip
  rfl
theorem zNd_3 (B : ZA) (D p : Nat) (n o : Int32) (j : Nat) : (zNd B D p n o).2 3 j = if j = D then nI 1 else B.2 3 j := zBg_3 _ D o j 8
theorem zNd_10 (B : ZA) (D p : Nat) (n o : Int32) (j : Nat) : (zNd B D p n o).2 10 j = if 8 * D ≤ j ∧ j < 8 * D + 8 then (if j = 8 * D then nI 8 else nI 0) else B.2 10 j := zBg_10 _ D o j 8
theorem zNd_11 (B : ZA) (D p : Nat) (n o : Int32) (j : Nat) : (zNd B D p n o).2 11 j = if 8 * D ≤ j ∧ j < 8 * D + 8 then (if j = 8 * D then o else -1) else B.2 11 j := zBg_11 _ D o j 8
theorem zNd_12 (B : ZA) (D p : Nat) (n o : Int32) (j : Nat) : (zNd B D p n o).2 12 j = if 8 * D ≤ j ∧ j < 8 * D + 8 then nI 0 else B.2 12 j := zBg_12 _ D o j 8
theorem zNd_4 (B : ZA) (D p : Nat) (n o : Int32) (j : Nat) : (zNd B D p n o).2 4 j = if j = D then nI p else B.2 4 j := by
  unfold zNd
  rw [zBg_n _ D o (by decide) (by decide) (by decide) (by decide) 8, zsa_n _ _ _ _ _ (by decide), zsa_2]
  exact ite_congr (propext ⟨fun z => z.2, fun z => ⟨rfl, z⟩⟩) (fun _ => rfl) (fun _ => rfl)
theorem zNd_5 (B : ZA) (D p : Nat) (n o : Int32) (j : Nat) : (zNd B D p n o).2 5 j = if j = D then n else B.2 5 j := by
  unfold zNd
  rw [zBg_n _ D o (by decide) (by decide) (by decide) (by decide) 8, zsa_2]
  exact ite_congr (propext ⟨fun z => z.2, fun z => ⟨rfl, z⟩⟩) (fun _ => rfl) (fun _ => rfl)
theorem zNd_n (B : ZA) (D p : Nat) (n o : Int32) {i : Nat} (h3 : i ≠ 3) (h4 : i ≠ 4) (h5 : i ≠ 5) (h10 : i ≠ 10) (h11 : i ≠ 11) (h12 : i ≠ 12) : (zNd B D p n o).2 i = B.2 i := by
  unfold zNd
  rw [zBg_n _ D o h3 h10 h11 h12 8, zsa_n _ _ _ _ _ h5, zsa_n _ _ _ _ _ h4]
theorem zNd_1 (B : ZA) (D p : Nat) (n o : Int32) : (zNd B D p n o).1 = B.1 := zBg_1 _ D o 8
theorem zNd_val {B : ZA} {D p : Nat} {n o : Int32} {i j : Nat} (hl : ¬ B.2 3 D = 1) (h : zVal (zNd B D p n o) i j) : zIn D i j ∨ (¬ zIn D i j ∧ zVal B i j) := by
  have h3 : ∀ y, (zNd B D p n o).2 3 y = 1 → y ≠ D → B.2 3 y = 1 := fun y hy hn => by rw [zNd_3, if_neg hn] at hy; exact hy
  unfold zVal at h
  split at h
  · by_cases e : j = D
    · exact Or.inl e
    · exact Or.inr ⟨e, h.1, h3 _ h.2 e⟩
  · by_cases e : j = D
    · exact Or.inl e
    · exact Or.inr ⟨e, h.1, h3 _ h.2 e⟩
  · by_cases e : j = D
    · exact Or.inl e
    · exact Or.inr ⟨e, h.1, h3 _ h.2 e⟩
  · by_cases e : j = D
    · exact Or.inl e
    · exact Or.inr ⟨e, h.1, h3 _ h.2 e⟩
  · by_cases e : j / 4 = D
    · exact Or.inl e
    · exact Or.inr ⟨e, h.1, h3 _ h.2 e⟩
  · by_cases e : j = D
    · exact Or.inl e
    · exact Or.inr ⟨e, h.1, h3 _ h.2 e⟩
  · by_cases e : j = 8 * D
    · exact Or.inl e
    · have h4 := h.2.2
      rw [zNd_10] at h4
      by_cases e2 : 8 * D ≤ j ∧ j < 8 * D + 8
      · rw [if_pos e2, if_neg e] at h4
        exact absurd rfl h4
      · rw [if_neg e2] at h4
        exact Or.inr ⟨e, h.1, h3 _ h.2.1 (by omega), h4⟩
  · rename_i g1 g2 g3 g4 g5 g6 g7
    refine Or.inr ⟨?_, ?_⟩
    · unfold zIn
      split <;> first | exact (g1 rfl).elim | exact (g2 rfl).elim | exact (g3 rfl).elim | exact (g4 rfl).elim | exact (g5 rfl).elim | exact (g6 rfl).elim | exact (g7 rfl).elim | exact fun z => z
    · unfold zVal
      split <;> first | exact (g1 rfl).elim | exact (g2 rfl).elim | exact (g3 rfl).elim | exact (g4 rfl).elim | exact (g5 rfl).elim | exact (g6 rfl).elim | exact (g7 rfl).elim | exact h
theorem zC.new {M M2 : ZM} {W : Nat → Nat → Nat} {B : ZA} (hC : zC M W B) (hM : zMw B) {D p x : Nat} {nu : Nat → Nat} {pr : Option Nat} {n o : Int32} (hD : D < 12) (hl : ¬ B.2 3 D = 1) (hx : zk M x = 0) (hdi : zDi (zw M x 1 0) M2 x nu D pr n o) (hpr : (D = 0 ∧ pr = none) ∨ (¬ D = 0 ∧ zVal B 3 p ∧ pr = some (W 3 p))) (hN : zNv B D) (hpu : ∀ j, zVal B 3 j → ¬ j = 0 → zpar B j ≠ D) : zC (zsr M2 (W 0 0) D (some x)) (zWn W x nu D) (zNd B D p n o) ∧ zFm M W B (zsr M2 (W 0 0) D (some x)) ∧ ∀ i j, zVal (zNd B D p n o) i j → (zVal B i j ∧ zWn W x nu D i j = W i j) ∨ zk M (zWn W x nu D i j) = 0 := by
  obtain ⟨⟨d1, d2, d3⟩, d4, d5, d6, d7, d8, d9, d10⟩ := hdi
  have hnu : ∀ i, i < 9 → zk M (nu i) = 0 ∧ nu i ≠ x := fun i hi => by
    obtain ⟨h1, h2⟩ := d1 i hi
    rw [zk_w, if_neg h2] at h1
    exact ⟨h1, h2⟩
  have hv00 : zVal B 0 0 := ⟨by decide, rfl⟩
  have h00 := hC.nz hv00
  have hold : ∀ y, ¬ zk M y = 0 → y ≠ W 0 0 → zsame M (zsr M2 (W 0 0) D (some x)) y := fun y hy hy0 => by
    have hyx : y ≠ x := fun e => hy (e ▸ hx)
    exact (zsame.w hyx).tr ((d3 y (by rw [zk_w, if_neg hyx]; exact hy) hyx).tr (zsame.r hy0))
  have hnew : ∀ y, zk M y = 0 → zsame M2 (zsr M2 (W 0 0) D (some x)) y := fun y hy => zsame.r (fun e => h00 (e ▸ hy))
  have hin0 : ∀ i j, zIn D i j → zk M (zWn W x nu D i j) = 0 := fun i j h => by
    obtain ⟨h1, h2⟩ := zWn_in (W := W) (x := x) (nu := nu) h
    rw [h1]
    split
    · exact hx
    · exact (hnu _ (by omega)).1
  have hpD : ∀ j, zVal B 3 j → j ≠ D := fun j h e => hl (e ▸ h.2)
  refine ⟨⟨fun i j h => ?_, fun i j i' j' h1 h2 e => ?_⟩, fun y hy h2 => hold y hy (h2 0 0 hv00), fun i j h => ?_⟩
  · rcases zNd_val hl h with hin | ⟨hout, hv⟩
    · have hl9 := h.lt
      match i, hin, hl9 with
      | 3, hin, _ =>
        have ej : j = D := hin
        subst ej
        have eW : zWn W x nu j 3 j = x := if_pos rfl
        have e0 : zWn W x nu j 4 j = nu 0 := if_pos rfl
        have e1 : zWn W x nu j 5 j = nu 1 := if_pos rfl
        have e2 : zWn W x nu j 6 j = nu 2 := if_pos rfl
        have e3 : zWn W x nu j 8 j = nu 3 := if_pos rfl
        obtain ⟨s1, s2, s3, s4, s5⟩ := hnew x hx
        obtain ⟨f1, f2, f3, f4, f5, f6, f7, f8⟩ := d4
        show zk _ (zWn W x nu j 3 j) = 1 ∧ zi _ (zWn W x nu j 3 j) 0 = nI j ∧ (zr _ (zWn W x nu j 3 j) 1 = if j = 0 then none else some (zWn W x nu j 3 (zpar (zNd B j p n o) j))) ∧ zi _ (zWn W x nu j 3 j) 2 = (zNd B j p n o).2 5 j ∧ zr _ (zWn W x nu j 3 j) 3 = some (zWn W x nu j 4 j) ∧ zr _ (zWn W x nu j 3 j) 4 = some (zWn W x nu j 5 j) ∧ zr _ (zWn W x nu j 3 j) 5 = some (zWn W x nu j 6 j) ∧ zr _ (zWn W x nu j 3 j) 6 = some (zWn W x nu j 8 j)
        rw [eW, e0, e1, e2, e3, zNd_5, if_pos rfl]
        refine ⟨s1.trans f1, (s3 0).trans f2, (s4 1).trans (f3.trans ?_), (s3 2).trans f4, (s4 3).trans f5, (s4 4).trans f6, (s4 5).trans f7, (s4 6).trans f8⟩
        rcases hpr with ⟨h0, hp⟩ | ⟨h0, hp9, hp⟩
        · rw [hp, if_pos h0]
        · have hp12 := hp9.1
          have ez : zpar (zNd B j p n o) j = p := by unfold zpar; rw [zNd_4, if_pos rfl, nI_clamp (by omega)]
          rw [hp, if_neg h0, ez]
          exact congrArg some (if_neg (hpD p hp9)).symm
      | 4, hin, _ =>
        have ej : j = D := hin
        subst ej
        have eW : zWn W x nu j 4 j = nu 0 := if_pos rfl
        obtain ⟨s1, s2, s3, s4, s5⟩ := hnew (nu 0) (hnu 0 (by decide)).1
        show zk _ (zWn W x nu j 4 j) = 5 ∧ zn _ (zWn W x nu j 4 j) = 50 ∧ ∀ k, k < 50 → zi _ (zWn W x nu j 4 j) k = (zNd B j p n o).2 6 (50 * j + k)
        rw [eW, zNd_n B j p n o (by decide) (by decide) (by decide) (by decide) (by decide) (by decide)]
        exact ⟨s1.trans d5.1, s2.trans d5.2.1, fun k hk => (s3 k).trans ((d5.2.2 k hk).trans (hN k hk).1.symm)⟩
      | 5, hin, _ =>
        have ej : j = D := hin
        subst ej
        have eW : zWn W x nu j 5 j = nu 1 := if_pos rfl
        obtain ⟨s1, s2, s3, s4, s5⟩ := hnew (nu 1) (hnu 1 (by decide)).1
        show zk _ (zWn W x nu j 5 j) = 5 ∧ zn _ (zWn W x nu j 5 j) = 50 ∧ ∀ k, k < 50 → zi _ (zWn W x nu j 5 j) k = (zNd B j p n o).2 7 (50 * j + k)
        rw [eW, zNd_n B j p n o (by decide) (by decide) (by decide) (by decide) (by decide) (by decide)]
        exact ⟨s1.trans d6.1, s2.trans d6.2.1, fun k hk => (s3 k).trans ((d6.2.2 k hk).trans (hN k hk).2.1.symm)⟩
      | 6, hin, _ =>
        have ej : j = D := hin
        subst ej
        have eW : zWn W x nu j 6 j = nu 2 := if_pos rfl
        obtain ⟨s1, s2, s3, s4, s5⟩ := hnew (nu 2) (hnu 2 (by decide)).1
        show zk _ (zWn W x nu j 6 j) = 10 ∧ zn _ (zWn W x nu j 6 j) = 4 ∧ ∀ c, c < 4 → zr _ (zWn W x nu j 6 j) c = some (zWn W x nu j 7 (4 * j + c))
        rw [eW]
        refine ⟨s1.trans d7.1, s2.trans d7.2.1, fun c hc => (s4 c).trans ((d7.2.2 c hc).trans ?_)⟩
        have e7 : zWn W x nu j 7 (4 * j + c) = nu (5 + (4 * j + c) % 4) := if_pos (by omega)
        rw [e7, show (4 * j + c) % 4 = c by omega]
      | 7, hin, _ =>
        have ej : j / 4 = D := hin
        have eW : zWn W x nu D 7 j = nu (5 + j % 4) := if_pos ej
        have h4 : j % 4 < 4 := Nat.mod_lt _ (by decide)
        obtain ⟨s1, s2, s3, s4, s5⟩ := hnew (nu (5 + j % 4)) (hnu _ (by omega)).1
        obtain ⟨g1, g2, g3⟩ := d8 (j % 4) h4
        show zk _ (zWn W x nu D 7 j) = 5 ∧ zn _ (zWn W x nu D 7 j) = 50 ∧ ∀ k, k < 50 → zi _ (zWn W x nu D 7 j) k = (zNd B D p n o).2 13 (600 * (j % 4) + (50 * (j / 4) + k))
        rw [eW, zNd_n B D p n o (by decide) (by decide) (by decide) (by decide) (by decide) (by decide), ej]
        exact ⟨s1.trans g1, s2.trans g2, fun k hk => (s3 k).trans ((g3 k hk).trans ((hN k hk).2.2 _ h4).symm)⟩
      | 8, hin, _ =>
        have ej : j = D := hin
        subst ej
        have eW : zWn W x nu j 8 j = nu 3 := if_pos rfl
        have eF : zWn W x nu j 9 (8 * j) = nu 4 := if_pos rfl
        obtain ⟨s1, s2, s3, s4, s5⟩ := hnew (nu 3) (hnu 3 (by decide)).1
        show zk _ (zWn W x nu j 8 j) = 9 ∧ zn _ (zWn W x nu j 8 j) = 8 ∧ ∀ h, h < 8 → zr _ (zWn W x nu j 8 j) h = some (zWn W x nu j 9 (8 * j + zfg ((zNd B j p n o).2 10) j h))
        rw [eW]
        refine ⟨s1.trans d9.1, s2.trans d9.2.1, fun h hh => (s4 h).trans ((d9.2.2 h hh).trans ?_)⟩
        have ez : ∀ h, h < 8 → zfg ((zNd B j p n o).2 10) j h = 0 := by
          intro h
          induction h with
          | zero => exact fun _ => rfl
          | succ h ih =>
            intro hh
            unfold zfg
            rw [zNd_10, if_pos (show 8 * j ≤ 8 * j + (h + 1) ∧ 8 * j + (h + 1) < 8 * j + 8 by omega), if_neg (show ¬ 8 * j + (h + 1) = 8 * j by omega), if_pos (show nI 0 = 0 from rfl)]
            exact ih (by omega)
        rw [ez h hh, Nat.add_zero, eF]
      | 9, hin, _ =>
        have ej : j = 8 * D := hin
        subst ej
        have eF : zWn W x nu D 9 (8 * D) = nu 4 := if_pos rfl
        obtain ⟨s1, s2, s3, s4, s5⟩ := hnew (nu 4) (hnu 4 (by decide)).1
        obtain ⟨f1, f2, f3, f4, f5, f6⟩ := d10
        show zk _ (zWn W x nu D 9 (8 * D)) = 2 ∧ zi _ (zWn W x nu D 9 (8 * D)) 0 = nI (8 * D / 8) ∧ zi _ (zWn W x nu D 9 (8 * D)) 1 = nI (8 * D % 8) ∧ zi _ (zWn W x nu D 9 (8 * D)) 2 = (zNd B D p n o).2 10 (8 * D) ∧ zi _ (zWn W x nu D 9 (8 * D)) 3 = (zNd B D p n o).2 11 (8 * D) ∧ zi _ (zWn W x nu D 9 (8 * D)) 4 = (zNd B D p n o).2 12 (8 * D)
        rw [eF, zNd_10, if_pos (by omega), if_pos rfl, zNd_11, if_pos (by omega), if_pos rfl, zNd_12, if_pos (by omega), show 8 * D / 8 = D by omega, show 8 * D % 8 = 0 by omega]
        exact ⟨s1.trans f1, (s3 0).trans f2, (s3 1).trans f3, (s3 2).trans f4, (s3 3).trans f5, (s3 4).trans f6⟩
      | 0, hin, _ => exact hin.elim
      | 1, hin, _ => exact hin.elim
      | 2, hin, _ => exact hin.elim
      | 10, hin, _ => exact hin.elim
      | i + 11, _, hl9 => exact absurd hl9 (by omega)
    · have hO := hC.1 i j hv
      have eW := zWn_out (W := W) (x := x) (nu := nu) hout
      have a0 : zWn W x nu D 0 0 = W 0 0 := rfl
      have a1 : zWn W x nu D 1 0 = W 1 0 := rfl
      have a2 : zWn W x nu D 2 0 = W 2 0 := rfl
      have hs : ¬ (i = 0 ∧ j = 0) → zsame M (zsr M2 (W 0 0) D (some x)) (W i j) := fun hn => hold _ (hC.nz hv) (fun e => hn (hC.2 i j 0 0 hv hv00 e))
      have hl9 := hv.lt
      match i, hout, hv, hO, eW, hs, hl9 with
      | 0, hout, hv, hO, eW, hs, _ =>
        have ej : j = 0 := hv.2
        subst ej
        have hyx : W 0 0 ≠ x := fun e => h00 (e ▸ hx)
        obtain ⟨s1, s2, s3, s4, s5⟩ := (zsame.w (kd := 1) (n := 0) hyx).tr (d3 (W 0 0) (by rw [zk_w, if_neg hyx]; exact h00) hyx)
        show zk _ (zWn W x nu D 0 0) = 8 ∧ zn _ (zWn W x nu D 0 0) = 12 ∧ ∀ d, d < 12 → zr _ (zWn W x nu D 0 0) d = if (zNd B D p n o).2 3 d = 1 then some (zWn W x nu D 3 d) else none
        rw [eW]
        refine ⟨s1.trans hO.1, s2.trans hO.2.1, fun d hd => ?_⟩
        rw [zr_r, zNd_3]
        by_cases e : d = D
        · rw [if_pos ⟨rfl, e⟩, if_pos e, if_pos (show nI 1 = 1 from rfl)]
          exact congrArg some (if_pos e).symm
        · rw [if_neg (fun z => e z.2), if_neg e, s4, hO.2.2 d hd]
          exact ite_congr rfl (fun _ => congrArg some (if_neg e).symm) (fun _ => rfl)
      | 1, hout, hv, hO, eW, hs, _ =>
        obtain ⟨g1, g2, g3⟩ := zOb.same hv (hs (fun z => absurd z.1 (by decide))) hO
        show zk _ (zWn W x nu D 1 j) = 5 ∧ zn _ (zWn W x nu D 1 j) = 4 ∧ ∀ c, c < 4 → zi _ (zWn W x nu D 1 j) c = (zNd B D p n o).2 14 c
        rw [eW, zNd_n B D p n o (by decide) (by decide) (by decide) (by decide) (by decide) (by decide)]
        exact ⟨g1, g2, g3⟩
      | 2, hout, hv, hO, eW, hs, _ =>
        obtain ⟨g1, g2, g3⟩ := zOb.same hv (hs (fun z => absurd z.1 (by decide))) hO
        show zk _ (zWn W x nu D 2 j) = 5 ∧ zn _ (zWn W x nu D 2 j) = 4 ∧ ∀ c, c < 4 → zi _ (zWn W x nu D 2 j) c = (zNd B D p n o).2 15 c
        rw [eW, zNd_n B D p n o (by decide) (by decide) (by decide) (by decide) (by decide) (by decide)]
        exact ⟨g1, g2, g3⟩
      | 3, hout, hv, hO, eW, hs, _ =>
        have hjD : j ≠ D := hout
        obtain ⟨f1, f2, f3, f4, f5, f6, f7, f8⟩ := zOb.same hv (hs (fun z => absurd z.1 (by decide))) hO
        have e0 : zWn W x nu D 4 j = W 4 j := if_neg hjD
        have e1 : zWn W x nu D 5 j = W 5 j := if_neg hjD
        have e2 : zWn W x nu D 6 j = W 6 j := if_neg hjD
        have e3 : zWn W x nu D 8 j = W 8 j := if_neg hjD
        have ez : zpar (zNd B D p n o) j = zpar B j := by unfold zpar; rw [zNd_4, if_neg hjD]
        show zk _ (zWn W x nu D 3 j) = 1 ∧ zi _ (zWn W x nu D 3 j) 0 = nI j ∧ (zr _ (zWn W x nu D 3 j) 1 = if j = 0 then none else some (zWn W x nu D 3 (zpar (zNd B D p n o) j))) ∧ zi _ (zWn W x nu D 3 j) 2 = (zNd B D p n o).2 5 j ∧ zr _ (zWn W x nu D 3 j) 3 = some (zWn W x nu D 4 j) ∧ zr _ (zWn W x nu D 3 j) 4 = some (zWn W x nu D 5 j) ∧ zr _ (zWn W x nu D 3 j) 5 = some (zWn W x nu D 6 j) ∧ zr _ (zWn W x nu D 3 j) 6 = some (zWn W x nu D 8 j)
        rw [eW, e0, e1, e2, e3, zNd_5, if_neg hjD, ez]
        refine ⟨f1, f2, ?_, f4, f5, f6, f7, f8⟩
        rw [f3]
        by_cases h0 : j = 0
        · rw [if_pos h0, if_pos h0]
        · rw [if_neg h0, if_neg h0]
          exact congrArg some (if_neg (hpu j hv h0)).symm
      | 4, hout, hv, hO, eW, hs, _ =>
        obtain ⟨g1, g2, g3⟩ := zOb.same hv (hs (fun z => absurd z.1 (by decide))) hO
        show zk _ (zWn W x nu D 4 j) = 5 ∧ zn _ (zWn W x nu D 4 j) = 50 ∧ ∀ k, k < 50 → zi _ (zWn W x nu D 4 j) k = (zNd B D p n o).2 6 (50 * j + k)
        rw [eW, zNd_n B D p n o (by decide) (by decide) (by decide) (by decide) (by decide) (by decide)]
        exact ⟨g1, g2, g3⟩
      | 5, hout, hv, hO, eW, hs, _ =>
        obtain ⟨g1, g2, g3⟩ := zOb.same hv (hs (fun z => absurd z.1 (by decide))) hO
        show zk _ (zWn W x nu D 5 j) = 5 ∧ zn _ (zWn W x nu D 5 j) = 50 ∧ ∀ k, k < 50 → zi _ (zWn W x nu D 5 j) k = (zNd B D p n o).2 7 (50 * j + k)
        rw [eW, zNd_n B D p n o (by decide) (by decide) (by decide) (by decide) (by decide) (by decide)]
        exact ⟨g1, g2, g3⟩
      | 6, hout, hv, hO, eW, hs, _ =>
        have hjD : j ≠ D := hout
        obtain ⟨g1, g2, g3⟩ := zOb.same hv (hs (fun z => absurd z.1 (by decide))) hO
        show zk _ (zWn W x nu D 6 j) = 10 ∧ zn _ (zWn W x nu D 6 j) = 4 ∧ ∀ c, c < 4 → zr _ (zWn W x nu D 6 j) c = some (zWn W x nu D 7 (4 * j + c))
        rw [eW]
        refine ⟨g1, g2, fun c hc => (g3 c hc).trans ?_⟩
        have e7 : zWn W x nu D 7 (4 * j + c) = W 7 (4 * j + c) := if_neg (by omega)
        rw [e7]
      | 7, hout, hv, hO, eW, hs, _ =>
        obtain ⟨g1, g2, g3⟩ := zOb.same hv (hs (fun z => absurd z.1 (by decide))) hO
        show zk _ (zWn W x nu D 7 j) = 5 ∧ zn _ (zWn W x nu D 7 j) = 50 ∧ ∀ k, k < 50 → zi _ (zWn W x nu D 7 j) k = (zNd B D p n o).2 13 (600 * (j % 4) + (50 * (j / 4) + k))
        rw [eW, zNd_n B D p n o (by decide) (by decide) (by decide) (by decide) (by decide) (by decide)]
        exact ⟨g1, g2, g3⟩
      | 8, hout, hv, hO, eW, hs, _ =>
        have hjD : j ≠ D := hout
        obtain ⟨g1, g2, g3⟩ := zOb.same hv (hs (fun z => absurd z.1 (by decide))) hO
        show zk _ (zWn W x nu D 8 j) = 9 ∧ zn _ (zWn W x nu D 8 j) = 8 ∧ ∀ h, h < 8 → zr _ (zWn W x nu D 8 j) h = some (zWn W x nu D 9 (8 * j + zfg ((zNd B D p n o).2 10) j h))
        rw [eW]
        refine ⟨g1, g2, fun h hh => (g3 h hh).trans ?_⟩
        have h7 := zfg_le (B.2 10) j h
        rw [zfg_cg (S := B.2 10) (S' := (zNd B D p n o).2 10) (fun y hy => by rw [zNd_10, if_neg (by omega)])]
        exact congrArg some (if_neg (by omega)).symm
      | 9, hout, hv, hO, eW, hs, _ =>
        obtain ⟨f1, f2, f3, f4, f5, f6⟩ := zOb.same hv (hs (fun z => absurd z.1 (by decide))) hO
        have hjD : ¬ (8 * D ≤ j ∧ j < 8 * D + 8) := fun z => hl (by have := hv.2.1; rwa [show j / 8 = D by omega] at this)
        show zk _ (zWn W x nu D 9 j) = 2 ∧ zi _ (zWn W x nu D 9 j) 0 = nI (j / 8) ∧ zi _ (zWn W x nu D 9 j) 1 = nI (j % 8) ∧ zi _ (zWn W x nu D 9 j) 2 = (zNd B D p n o).2 10 j ∧ zi _ (zWn W x nu D 9 j) 3 = (zNd B D p n o).2 11 j ∧ zi _ (zWn W x nu D 9 j) 4 = (zNd B D p n o).2 12 j
        rw [eW, zNd_10, if_neg hjD, zNd_11, if_neg hjD, zNd_12, if_neg hjD]
        exact ⟨f1, f2, f3, f4, f5, f6⟩
      | 10, hout, hv, hO, eW, hs, _ =>
        have ej : j = 0 := hv.2
        subst ej
        obtain ⟨f1, ⟨f2, f3, f4⟩, f5, f6⟩ := zOb.same hv (hs (fun z => absurd z.1 (by decide))) hO
        show zk _ (zWn W x nu D 10 0) = 3 ∧ (zr _ (zWn W x nu D 10 0) 0 = some (zWn W x nu D 0 0) ∧ zr _ (zWn W x nu D 10 0) 5 = some (zWn W x nu D 1 0) ∧ zr _ (zWn W x nu D 10 0) 6 = some (zWn W x nu D 2 0)) ∧ (zi _ (zWn W x nu D 10 0) 1 = (zNd B D p n o).1 2 ∧ zi _ (zWn W x nu D 10 0) 2 = (zNd B D p n o).1 9 ∧ zi _ (zWn W x nu D 10 0) 3 = (zNd B D p n o).1 8 ∧ zi _ (zWn W x nu D 10 0) 4 = (zNd B D p n o).1 1 ∧ zi _ (zWn W x nu D 10 0) 8 = (zNd B D p n o).1 17 ∧ zi _ (zWn W x nu D 10 0) 9 = (zNd B D p n o).1 18) ∧ (zr _ (zWn W x nu D 10 0) 7 = if (zNd B D p n o).1 16 = -1 then none else some (zWn W x nu D 9 ((zNd B D p n o).1 16).toNatClampNeg))
        rw [eW, a0, a1, a2, zNd_1]
        refine ⟨f1, ⟨f2, f3, f4⟩, f5, f6.trans ?_⟩
        rcases hM with e | ⟨m, e, hm⟩
        · rw [if_pos e, if_pos e]
        · have hm9 := hm.1
          rw [e, nI_clamp (by omega)]
          exact ite_congr rfl (fun _ => rfl) (fun _ => congrArg some (if_neg (fun z => hl (by have := hm.2.1; rwa [z, show 8 * D / 8 = D by omega] at this))).symm)
      | i + 11, _, _, _, _, _, hl9 => exact absurd hl9 (by omega)
  · rcases zNd_val hl h1 with hin1 | ⟨hout1, hv1⟩
    · rcases zNd_val hl h2 with hin2 | ⟨hout2, hv2⟩
      · obtain ⟨e1, l1⟩ := zWn_in (W := W) (x := x) (nu := nu) hin1
        obtain ⟨e2, l2⟩ := zWn_in (W := W) (x := x) (nu := nu) hin2
        rw [e1, e2] at e
        refine zIn_inj hin1 hin2 ?_
        by_cases k1 : zKp i j = 0
        · by_cases k2 : zKp i' j' = 0
          · rw [k1, k2]
          · rw [if_pos k1, if_neg k2] at e
            exact absurd e.symm (hnu _ (by omega)).2
        · by_cases k2 : zKp i' j' = 0
          · rw [if_neg k1, if_pos k2] at e
            exact absurd e (hnu _ (by omega)).2
          · rw [if_neg k1, if_neg k2] at e
            have := d2 _ _ (by omega) (by omega) e
            omega
      · rw [zWn_out hout2] at e
        exact absurd (e ▸ hin0 i j hin1) (hC.nz hv2)
    · rcases zNd_val hl h2 with hin2 | ⟨hout2, hv2⟩
      · rw [zWn_out hout1] at e
        exact absurd (e.symm ▸ hin0 i' j' hin2) (hC.nz hv1)
      · rw [zWn_out hout1, zWn_out hout2] at e
        exact hC.2 i j i' j' hv1 hv2 e
  · rcases zNd_val hl h with hin | ⟨hout, hv⟩
    · exact Or.inr (hin0 i j hin)
    · exact Or.inl ⟨hv, zWn_out hout⟩

