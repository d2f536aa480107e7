/-! how fragments can lie: all 26 ways -/
def zc2 : List (List Nat) := [[2, 0], [1, 1]]
def zc4 : List (List Nat) := [4, 0, 0, 0] :: (zc2.flatMap fun a => zc2.map fun b => a ++ b)
def zcfs : List (List Nat) := [8, 0, 0, 0, 0, 0, 0, 0] :: (zc4.flatMap fun a => zc4.map fun b => a ++ b)
def zgN (c : List Nat) : Nat → Nat
  | 0 => 0
  | h + 1 => if c.getD (h + 1) 0 = 0 then zgN c h else h + 1
def zcS (c : List Nat) (g s : Nat) : List Nat := (c.set g (s / 2)).set (g + s / 2) (s / 2)
def zcM (c : List Nat) (g s : Nat) : List Nat := (c.set g (2 * s)).set (g + s) 0
theorem zcf_a : ∀ c ∈ zcfs, (∀ h, h < 8 → c.getD h 0 ≤ 8) ∧ ¬ c.getD 0 0 = 0 := by decide +kernel
theorem zcf_s : ∀ c ∈ zcfs, ∀ h, h < 8 → 1 ≤ c.getD (zgN c h) 0 ∧ zgN c h + c.getD (zgN c h) 0 ≤ 8 ∧ (c.getD (zgN c h) 0 = 1 ∨ (c.getD (zgN c h) 0 = 2 * (c.getD (zgN c h) 0 / 2) ∧ 1 ≤ c.getD (zgN c h) 0 / 2 ∧ c.getD (zgN c h + c.getD (zgN c h) 0 / 2) 0 = 0 ∧ zcS c (zgN c h) (c.getD (zgN c h) 0) ∈ zcfs ∧ ∀ y, y < 8 → zgN (zcS c (zgN c h) (c.getD (zgN c h) 0)) y = if zgN c h + c.getD (zgN c h) 0 / 2 ≤ y ∧ y < zgN c h + c.getD (zgN c h) 0 / 2 + c.getD (zgN c h) 0 / 2 then zgN c h + c.getD (zgN c h) 0 / 2 else zgN c y)) := by decide +kernel
theorem zcf_m1 : ∀ c ∈ zcfs, ∀ h, h < 8 → ¬ (zgN c h) % (2 * (c.getD (zgN c h) 0)) = 0 → (c.getD (zgN c h) 0) ≤ (zgN c h) := by decide +kernel
theorem zcf_m2 : ∀ c ∈ zcfs, ∀ h, h < 8 → (c.getD (zgN c h) 0) < 8 → (zb1 (zgN c h) (c.getD (zgN c h) 0)) + 2 * (c.getD (zgN c h) 0) ≤ 8 ∧ (zgN c h) ^^^ (c.getD (zgN c h) 0) < 8 ∧ ((c.getD (zb1 (zgN c h) (c.getD (zgN c h) 0)) 0 = (c.getD (zgN c h) 0) ∧ c.getD ((zb1 (zgN c h) (c.getD (zgN c h) 0)) + (c.getD (zgN c h) 0)) 0 = (c.getD (zgN c h) 0)) ↔ c.getD (zgN c (zgN c h ^^^ c.getD (zgN c h) 0)) 0 = (c.getD (zgN c h) 0)) := by decide +kernel
theorem zcf_m3 : ∀ c ∈ zcfs, ∀ h, h < 8 → (c.getD (zgN c h) 0) < 8 → c.getD (zgN c (zgN c h ^^^ c.getD (zgN c h) 0)) 0 = (c.getD (zgN c h) 0) → zcM c (zb1 (zgN c h) (c.getD (zgN c h) 0)) (c.getD (zgN c h) 0) ∈ zcfs := by decide +kernel
theorem zcf_m5 : ∀ c ∈ zcfs, ∀ h, h < 8 → (c.getD (zgN c h) 0) < 8 → c.getD (zgN c (zgN c h ^^^ c.getD (zgN c h) 0)) 0 = (c.getD (zgN c h) 0) → (zgN c h) % (2 * (c.getD (zgN c h) 0)) = 0 → (zb1 (zgN c h) (c.getD (zgN c h) 0)) = (zgN c h) ∧ (zgN c (zgN c h ^^^ c.getD (zgN c h) 0)) = (zgN c h) + (c.getD (zgN c h) 0) := by decide +kernel
theorem zcf_m6 : ∀ c ∈ zcfs, ∀ h, h < 8 → (c.getD (zgN c h) 0) < 8 → c.getD (zgN c (zgN c h ^^^ c.getD (zgN c h) 0)) 0 = (c.getD (zgN c h) 0) → ¬ (zgN c h) % (2 * (c.getD (zgN c h) 0)) = 0 → (zb1 (zgN c h) (c.getD (zgN c h) 0)) = (zgN c (zgN c h ^^^ c.getD (zgN c h) 0)) ∧ (zgN c h) = (zgN c (zgN c h ^^^ c.getD (zgN c h) 0)) + (c.getD (zgN c h) 0) := by decide +kernel
theorem zcf_m4 : ∀ c ∈ zcfs, ∀ h, h < 8 → (c.getD (zgN c h) 0) < 8 → c.getD (zgN c (zgN c h ^^^ c.getD (zgN c h) 0)) 0 = (c.getD (zgN c h) 0) → ∀ y, y < 8 → zgN (zcM c (zb1 (zgN c h) (c.getD (zgN c h) 0)) (c.getD (zgN c h) 0)) y = if (zb1 (zgN c h) (c.getD (zgN c h) 0)) ≤ y ∧ y < (zb1 (zgN c h) (c.getD (zgN c h) 0)) + ((c.getD (zgN c h) 0) + (c.getD (zgN c h) 0)) then (zb1 (zgN c h) (c.getD (zgN c h) 0)) else zgN c y := by decide +kernel
theorem zxor : ∀ g, g < 8 → ∀ s, s < 8 → nI g ^^^ nI s = nI (g ^^^ s) := by decide +kernel
theorem zcf_len : ∀ c ∈ zcfs, c.length = 8 := by decide +kernel
/-- the directory d has its fragments so -/
def zHc (S : Nat → Int32) (d : Nat) (c : List Nat) : Prop := c ∈ zcfs ∧ ∀ h, h < 8 → S (8 * d + h) = nI (c.getD h 0)
theorem zHc.z {S : Nat → Int32} {d : Nat} {c : List Nat} (hc : zHc S d c) {h : Nat} (hh : h < 8) : S (8 * d + h) = 0 ↔ c.getD h 0 = 0 := by
  have h1 := (zcf_a c hc.1).1 h hh
  rw [hc.2 h hh]
  exact nI_eq (by omega) (by decide)
theorem zHc.g {S : Nat → Int32} {d : Nat} {c : List Nat} (hc : zHc S d c) : ∀ {h : Nat}, h < 8 → zfg S d h = zgN c h
  | 0, _ => rfl
  | h + 1, hh => by
    rw [zfg, zgN]
    have e := hc.z hh
    have ih := hc.g (h := h) (by omega)
    by_cases h1 : c.getD (h + 1) 0 = 0
    · rw [if_pos (e.mpr h1), if_pos h1]
      exact ih
    · rw [if_neg (fun z => h1 (e.mp z)), if_neg h1]
theorem zgN_le (c : List Nat) : ∀ h, zgN c h ≤ h
  | 0 => Nat.le_refl _
  | h + 1 => by
    rw [zgN]
    split
    · exact Nat.le_succ_of_le (zgN_le c h)
    · exact Nat.le_refl _
theorem zgetD_set {c : List Nat} {i j v : Nat} (hi : i < c.length) : (c.set i v).getD j 0 = if i = j then v else c.getD j 0 := by
  rw [List.getD_eq_getElem?_getD, List.getD_eq_getElem?_getD, List.getElem?_set]
  by_cases e : i = j
  · rw [if_pos e, if_pos e, if_pos hi]
    rfl
  · rw [if_neg e, if_neg e]
theorem zHc.sp {A : ZA} {d g s : Nat} {c : List Nat} (hc : zHc (A.2 10) d c) (hg : g < 8) (hs : g + s / 2 < 8) (hm : zcS c g s ∈ zcfs) : zHc ((zSp A (8 * d + g) s).2 10) d (zcS c g s) := by
  refine ⟨hm, fun h hh => ?_⟩
  have hl := zcf_len c hc.1
  unfold zSp zcS
  rw [zsa_n _ _ _ _ _ (by decide), zsa_n _ _ _ _ _ (by decide), zsa_n _ _ _ _ _ (by decide), zsa_2, zsa_2, zgetD_set (by rw [List.length_set]; omega), zgetD_set (by omega), hc.2 h hh]
  by_cases h1 : g + s / 2 = h
  · rw [if_pos ⟨rfl, by omega⟩, if_pos h1]
  · rw [if_neg (fun z => h1 (by omega)), if_neg h1]
    by_cases h2 : g = h
    · rw [if_pos ⟨rfl, by omega⟩, if_pos h2]
    · rw [if_neg (fun z => h2 (by omega)), if_neg h2]
theorem zHc.mg {A : ZA} {d g s : Nat} {c : List Nat} (hc : zHc (A.2 10) d c) (hg : g < 8) (hs : g + s < 8) (hm : zcM c g s ∈ zcfs) : zHc ((zMg A (8 * d + g) s).2 10) d (zcM c g s) := by
  refine ⟨hm, fun h hh => ?_⟩
  have hl := zcf_len c hc.1
  unfold zMg zcM
  rw [zsa_n _ _ _ _ _ (by decide), zsa_2, zsa_2, zgetD_set (by rw [List.length_set]; omega), zgetD_set (by omega), hc.2 h hh]
  by_cases h1 : g + s = h
  · rw [if_pos ⟨rfl, by omega⟩, if_pos h1]
  · rw [if_neg (fun z => h1 (by omega)), if_neg h1]
    by_cases h2 : g = h
    · rw [if_pos ⟨rfl, by omega⟩, if_pos h2]
    · rw [if_neg (fun z => h2 (by omega)), if_neg h2]
/-! the way up is short: no more directories than 12 -/
theorem zDp_s {A : ZA} : ∀ {k d : Nat}, zDp A k d → zDp A (k + 1) d
  | 0, _, h => Or.inl h
  | k + 1, _, h => h.imp id (fun g => ⟨g.1, zDp_s g.2⟩)
theorem zDp_m {A : ZA} {k d : Nat} (h : zDp A k d) : ∀ n, zDp A (k + n) d
  | 0 => h
  | n + 1 => zDp_s (zDp_m h n)
theorem zDp_le {A : ZA} {k l d : Nat} (h : zDp A k d) (hl : k ≤ l) : zDp A l d := by
  have := zDp_m h (l - k)
  rwa [show k + (l - k) = l by omega] at this
noncomputable def zcq (A : ZA) (k : Nat) : Nat → Bool := fun d => @decide (zDp A k d) (Classical.propDecidable _)
theorem zcq_t {A : ZA} {k d : Nat} : zcq A k d = true ↔ zDp A k d := by
  unfold zcq
  rw [@decide_eq_true_iff _ (Classical.propDecidable _)]
theorem zcN_mono {p q : Nat → Bool} (h : ∀ d, p d = true → q d = true) : ∀ n, zcN p n ≤ zcN q n
  | 0 => Nat.le_refl _
  | n + 1 => by
    have ih := zcN_mono h n
    by_cases h1 : p n = true
    · rw [zcN_t h1, zcN_t (h n h1)]
      omega
    · rw [zcN_f h1, zcN]
      omega
theorem zcN_eqs {p q : Nat → Bool} (h : ∀ d, p d = true → q d = true) : ∀ n, zcN q n ≤ zcN p n → ∀ d, d < n → q d = true → p d = true
  | 0, _, d, hd, _ => absurd hd (Nat.not_lt_zero _)
  | n + 1, hn, d, hd, hq => by
    have hm := zcN_mono h n
    have h0 : zcN q n ≤ zcN p n := by
      by_cases h1 : p n = true
      · rw [zcN_t h1, zcN_t (h n h1)] at hn
        omega
      · rw [zcN_f h1, zcN] at hn
        omega
    by_cases e : d = n
    · subst e
      by_cases h1 : p d = true
      · exact h1
      · rw [zcN_f h1, zcN_t hq] at hn
        omega
    · exact zcN_eqs h n h0 d (by omega) hq
theorem zDp_st {A : ZA} {i : Nat} (h : ∀ d, d < 12 → zDp A (i + 1) d → zDp A i d) : ∀ n d, d < 12 → zDp A (i + n) d → zDp A i d
  | 0, _, _, g => g
  | n + 1, d, hd, g => by
    have h1 : zDp A (i + n + 1) d := g
    rcases h1 with h0 | ⟨h2, h3⟩
    · exact h d hd (Or.inl h0)
    · exact h d hd (Or.inr ⟨h2, zDp_st h n _ h2.2.1 h3⟩)
theorem zDp_cnt (A : ZA) : ∀ k, k + 1 ≤ zcN (zcq A k) 12 ∨ ∃ i, i < k ∧ ∀ d, d < 12 → zDp A (i + 1) d → zDp A i d
  | 0 => Or.inl (by
    have h0 : zcq A 0 0 = true := zcq_t.mpr rfl
    have h1 : zcN (zcq A 0) 1 = 1 := by rw [zcN_t h0]; rfl
    have : ∀ n, 1 ≤ zcN (zcq A 0) (1 + n) := fun n => by
      induction n with
      | zero => rw [h1]; omega
      | succ n ih =>
        show 1 ≤ zcN (zcq A 0) (1 + n) + _
        omega
    exact this 11)
  | k + 1 => by
    rcases zDp_cnt A k with h | ⟨i, h1, h2⟩
    · have hs : ∀ d, zcq A k d = true → zcq A (k + 1) d = true := fun d g => zcq_t.mpr (zDp_s (zcq_t.mp g))
      by_cases e : zcN (zcq A (k + 1)) 12 ≤ zcN (zcq A k) 12
      · exact Or.inr ⟨k, by omega, fun d hd g => zcq_t.mp (zcN_eqs hs 12 e d hd (zcq_t.mpr g))⟩
      · exact Or.inl (by omega)
    · exact Or.inr ⟨i, by omega, h2⟩
theorem zcN_full {p : Nat → Bool} : ∀ n, n ≤ zcN p n → ∀ d, d < n → p d = true
  | 0, _, d, hd => absurd hd (Nat.not_lt_zero _)
  | n + 1, hn, d, hd => by
    have hm := zcN_le p n
    by_cases h1 : p n = true
    · rw [zcN_t h1] at hn
      by_cases e : d = n
      · rw [e]
        exact h1
      · exact zcN_full n (by omega) d (by omega)
    · rw [zcN_f h1] at hn
      omega
theorem zDp_11 {A : ZA} {k d : Nat} (h : zDp A k d) (hd : d < 12) : zDp A 11 d := by
  rcases zDp_cnt A 11 with h1 | ⟨i, h1, h2⟩
  · exact zcq_t.mp (zcN_full 12 h1 d hd)
  · have h3 := zDp_st h2 k d hd (by rw [Nat.add_comm]; exact zDp_m h i)
    exact zDp_le h3 (by omega)

