/-! calls on both sides: merge, balance -/
section ZSI
variable {A B A' B' : ZA} {t D F T L : Nat}
theorem zRS.mg (hJ : zJ A t D F T L) (hA : zAg A B) (hl : zLs A B) (he : zAe A B L) (hu : zUm B D) {f s : Nat} (hJ' : zJ (zMg A f s) (t + 1) D F T L) : zRS (zMg A f s) (zMg B f s) (t + 1) := ⟨D, F, T, L, hJ', hA.mg f s, hl.cg rfl (zMg_n A _ _ (by decide) (by decide)) (zMg_n A _ _ (by decide) (by decide)) (zMg_n B _ _ (by decide) (by decide)), he.cg (zMg_n A _ _ (by decide) (by decide)) (zMg_n A _ _ (by decide) (by decide)) (zMg_n B _ _ (by decide) (by decide)), hu.cg (zMg_n B _ _ (by decide) (by decide)) (zMg_n B _ _ (by decide) (by decide)) (zMg_n B _ _ (by decide) (by decide))⟩
theorem zMg_val {d f s : Nat} (hs : 1 ≤ s ∧ s ≤ 4) (hf : ¬ B.2 10 f = 0) : ∀ i j, zVal (zMg B f s) i j → zVal B i j := by
  intro i j h
  have e3 := zMg_n B f s (i := 3) (by decide) (by decide)
  by_cases hi : i = 9
  · subst hi
    refine ⟨h.1, by rw [← e3]; exact h.2.1, fun e => h.2.2 ?_⟩
    rw [zMg_10]
    split
    · rfl
    · split
      · rename_i q
        rw [q] at e
        exact absurd e hf
      · exact e
  · match i, hi, h with
    | 0, _, h => exact h
    | 1, _, h => exact h
    | 2, _, h => exact h
    | 3, _, h => exact ⟨h.1, by rw [← e3]; exact h.2⟩
    | 4, _, h => exact ⟨h.1, by rw [← e3]; exact h.2⟩
    | 5, _, h => exact ⟨h.1, by rw [← e3]; exact h.2⟩
    | 6, _, h => exact ⟨h.1, by rw [← e3]; exact h.2⟩
    | 7, _, h => exact ⟨h.1, by rw [← e3]; exact h.2⟩
    | 8, _, h => exact ⟨h.1, by rw [← e3]; exact h.2⟩
    | 9, hi, _ => exact absurd rfl hi
    | 10, _, h => exact h
    | i + 11, _, h => exact absurd h.lt (by omega)
/-! balance -/
theorem zi_1 {v : Int32} : ¬ v ≤ nI 0 ↔ ¬ v < 1 := by
  rw [Int32.le_iff_toInt_le, Int32.lt_iff_toInt_lt, show (nI 0).toInt = 0 from rfl, show (1 : Int32).toInt = 1 from rfl]
  omega
theorem zBst_ge {a m : Int32} : ∀ {k j : Nat}, zBst A a m k = some j → ¬ A.2 12 j < 1
  | 0, _, h => nomatch h
  | k + 1, j, h => by
    unfold zBst at h
    split at h
    · rename_i h1
      split at h
      · cases h; exact h1.2.2.1
      · rename_i i hi
        split at h
        · cases h; exact zBst_ge hi
        · cases h; exact h1.2.2.1
    · exact zBst_ge h
theorem zbst1 (h : zJ A t D F T L) (hA : zAg A B) (a m : Int32) : ∀ k, k ≤ 96 → zhv B a (m / nI 2) k = zBst A a m k
  | 0, _ => rfl
  | k + 1, hk => by
    have ih := zbst1 h hA a m k (by omega)
    have hv := zVf_i h hA (k := k) (by omega)
    rw [zhv, zBst, ih, hA.sv, hA.k 12 (by decide)]
    by_cases g : zFt A a m k
    · rw [if_pos g]
      obtain ⟨g1, g2, g3, g4⟩ := g
      cases ho : zBst A a m k with
      | none => exact if_pos ⟨hv.mpr g1, zi_1.mpr g3, g4, g2⟩
      | some j =>
        show (if zVf B k ∧ ¬ A.2 12 k ≤ B.2 12 j ∧ ¬ m / nI 2 < A.2 12 k ∧ zsv A k = a then some k else some j) = if A.2 12 k ≤ A.2 12 j then some j else some k
        rw [hA.k 12 (by decide)]
        by_cases q : A.2 12 k ≤ A.2 12 j
        · rw [if_pos q, if_neg (fun z => z.2.1 q)]
        · rw [if_neg q, if_pos ⟨hv.mpr g1, q, g4, g2⟩]
    · rw [if_neg g]
      refine if_neg (fun z => g ⟨hv.mp z.1, z.2.2.2, ?_, z.2.2.1⟩)
      have z1 := z.2.1
      cases ho : zBst A a m k with
      | none =>
        rw [ho] at z1
        exact zi_1.mp z1
      | some j =>
        rw [ho] at z1
        have z2 : ¬ A.2 12 k ≤ A.2 12 j := by rw [← hA.k 12 (by decide)]; rw [← hA.k 12 (by decide)] at z1; exact z1
        have z3 := zBst_ge ho
        rw [Int32.le_iff_toInt_le] at z2
        rw [Int32.lt_iff_toInt_lt] at z3 ⊢
        omega
theorem zbst2 (h : zJ A t D F T L) (a m : Int32) : ∀ n, 8 * D + n ≤ 96 → zBst A a m (8 * D + n) = zBst A a m (8 * D)
  | 0, _ => rfl
  | n + 1, hn => by
    show zBst A a m (8 * D + n + 1) = _
    rw [zBst, if_neg (fun z => z.1 (by rw [h.gap (by omega) (by omega)]; exact Int32.le_refl 0)), zbst2 h a m n (by omega)]
theorem zbst (h : zJ A t D F T L) (hA : zAg A B) (a m : Int32) : zhv B a (m / nI 2) 96 = zBst A a m (8 * D) := by
  have h1 := h.bas.2.2.1
  rw [zbst1 h hA a m 96 (Nat.le_refl _)]
  have h2 := zbst2 h a m (96 - 8 * D) (by omega)
  rw [show 8 * D + (96 - 8 * D) = 96 by omega] at h2
  exact h2
theorem zHl_n (A : ZA) {i : Nat} (hi : i ≠ 12) : ∀ k, (zHl A k).2 i = A.2 i
  | 0 => rfl
  | k + 1 => by rw [zHl, zsa_n _ _ _ _ _ hi]; exact zHl_n A hi k
theorem zHl_12 (A : ZA) (j : Nat) : ∀ k, (zHl A k).2 12 j = if j < k then A.2 12 j / nI 2 else A.2 12 j
  | 0 => by rw [if_neg (Nat.not_lt_zero j)]; rfl
  | k + 1 => by
    have ih := zHl_12 A j k
    rw [zHl, zsa_2]
    by_cases e : j = k
    · subst e
      rw [if_pos ⟨rfl, rfl⟩, if_pos (Nat.lt_succ_self j), ih, if_neg (Nat.lt_irrefl j)]
    · rw [if_neg (fun z => e z.2), ih]
      by_cases g : j < k
      · rw [if_pos g, if_pos (by omega)]
      · rw [if_neg g, if_neg (by omega)]
theorem zhL_12 (B : ZA) (j : Nat) (hv : zVf B j) : ∀ k, (zhL B k).2 12 j = if j < k then B.2 12 j / nI 2 else B.2 12 j
  | 0 => by rw [if_neg (Nat.not_lt_zero j)]; rfl
  | k + 1 => by
    have ih := zhL_12 B j hv k
    rw [zhL]
    by_cases e : j = k
    · subst e
      rw [if_pos hv, zsa_2, if_pos ⟨rfl, rfl⟩, if_pos (Nat.lt_succ_self j), ih, if_neg (Nat.lt_irrefl j)]
    · have e2 : (if zVf B k then zsa (zhL B k) 12 k ((zhL B k).2 12 k / nI 2) else zhL B k).2 12 j = (zhL B k).2 12 j := by
        split
        · rw [zsa_2, if_neg (fun z => e z.2)]
        · rfl
      rw [e2, ih]
      by_cases g : j < k
      · rw [if_pos g, if_pos (by omega)]
      · rw [if_neg g, if_neg (by omega)]
/-- the class's state with the other's loads -/
def zhp (X B : ZA) : ZA := (B.1, fun i => if i = 12 then X.2 12 else B.2 i)
theorem zhp_n {X B : ZA} {i : Nat} (h : i ≠ 12) : (zhp X B).2 i = B.2 i := if_neg h
theorem zhp_12 {X B : ZA} : (zhp X B).2 12 = X.2 12 := (if_pos rfl : (if (12 : Nat) = 12 then X.2 12 else B.2 12) = X.2 12)
theorem zRS.hl (hJ : zJ A t D F T L) (hA : zAg A B) (hl : zLs A B) (he : zAe A B L) (hu : zUm B D) : zRS (zHl A (8 * D)) (zhp (zHl A (8 * D)) B) (t + 1) := by
  refine ⟨D, F, T, L, hJ.se (zHl_1 _ _) ?_ ?_ ?_ ?_ ?_ ?_, ⟨?_, fun i h1 h2 => ?_⟩, hl.cg ?_ ?_ ?_ ?_, he.cg ?_ ?_ ?_, hu.cg ?_ ?_ ?_⟩
  any_goals exact zHl_n _ (by decide) _
  any_goals exact zhp_n (by decide)
  · rw [zHl_1]
    exact hA.1
  · by_cases e : i = 12
    · rw [e, zhp_12]
    · rw [zhp_n e, zHl_n _ e]
      exact hA.2 i h1 h2
  · rw [zHl_1]
theorem zCW.hl {M : ZM} {W : Nat → Nat → Nat} {v : Option Value} {o : ZO} {M' : ZM} {B0 : ZA} (hJ : zJ A t D F T L) (hA : zAg A B) (h : zCW W M B0 v (zhL B 96) o M') : zCW W M B0 v (zhp (zHl A (8 * D)) B) o M' := by
  have e3 := zhL_n B (i := 3) (by decide) 96
  have e10 := zhL_n B (i := 10) (by decide) 96
  refine h.nrm (zhL_1 B 96).symm (fun i h1 h2 => ?_) (fun j h1 => ?_) (fun j h1 h2 h3 => ?_)
  · rw [zhp_n h2, zhL_n B h2]
  · rw [zhp_n (by decide), zhL_n B (by decide)]
  · rw [e3] at h2
    rw [e10] at h3
    have h2A : A.2 3 (j / 8) = 1 := by rw [← hA.k 3 (by decide)]; exact h2
    have := hJ.al (d := j / 8) (by omega) h2A
    rw [zhp_12, zHl_12, if_pos (by omega), zhL_12 B j ⟨h2, h3⟩, if_pos h1, hA.k 12 (by decide)]
end ZSI
