/-! p28: what the law's three rows tell of the numbers A -/
section ZPU
variable {A B A' B' : ZA} {t D F T9 L9 : Nat} {T U V : Nat → Int32}
/-- the law's rows: what stands at each of the five names, how old it is, and how many were made -/
def zTm (A : ZA) (T U V : Nat → Int32) : Prop := (∀ k, k < 60 → T k = A.2 6 (50 * (k / 5) + k % 5)) ∧ (∀ k, k < 60 → U k = A.2 7 (50 * (k / 5) + k % 5)) ∧ V 0 = A.1 2 ∧ V 1 = A.1 9 ∧ V 2 = A.1 8
theorem zTm.at (h : zTm A T U V) {d n : Nat} (hd : d < 12) (hn : n < 5) : T (5 * d + n) = A.2 6 (50 * d + n) := by
  rw [h.1 _ (by omega), show 50 * ((5 * d + n) / 5) + (5 * d + n) % 5 = 50 * d + n by omega]
theorem zTm.cg (h : zTm A T U V) (h1 : A'.1 = A.1) (h6 : A'.2 6 = A.2 6) (h7 : A'.2 7 = A.2 7) : zTm A' T U V := by
  unfold zTm
  rw [h1, h6, h7]
  exact h
/-- how many directories and files there were -/
theorem zIv.n (h : zIv A B t) : ∃ D F L, A.1 2 = nI D ∧ 1 ≤ D ∧ D ≤ 12 ∧ A.1 9 = nI F ∧ F ≤ 30 ∧ A.1 8 = nI L ∧ L ≤ t ∧ ∀ d, d < 12 → A.2 3 d = 1 → d < D := by
  obtain ⟨D, F, T, L, hJ, -⟩ := h.1
  exact ⟨D, F, L, hJ.bas.1, hJ.bas.2.1, hJ.bas.2.2.1, hJ.fl.1, hJ.fl.2, hJ.2.1.1, hJ.2.1.2, fun d h1 h2 => hJ.al h1 h2⟩
/-- what a name stands for -/
theorem zIv.sn (h : zIv A B t) {F : Nat} (hF : A.1 9 = nI F) (hF30 : F ≤ 30) {d n : Nat} (hd : d < 12) (hn : n < 50) : A.2 6 (50 * d + n) = -1 ∨ (∃ f, f < F ∧ A.2 6 (50 * d + n) = nI f) ∨ ∃ e, e < 12 ∧ ¬ e = 0 ∧ A.2 3 e = 1 ∧ A.2 6 (50 * d + n) = -2 - nI e ∧ zpar A e = d ∧ znam A e = n := by
  obtain ⟨D, F', T, L, hJ, -⟩ := h.1
  have e := hJ.fl.1
  rw [hF] at e
  have e2 := (nI_eq (by omega) (by have := hJ.fl.2; omega)).mp e
  subst e2
  rcases hJ.sn d n hd hn with g | ⟨-, g | g⟩
  · exact Or.inl g
  · exact Or.inr (Or.inl g)
  · exact Or.inr (Or.inr g)
/-- where a directory stands -/
theorem zIv.cv (h : zIv A B t) {e : Nat} (he : e < 12) (h0 : ¬ e = 0) (hv : A.2 3 e = 1) : zpar A e < 12 ∧ znam A e < 5 ∧ A.2 3 (zpar A e) = 1 ∧ A.2 6 (50 * zpar A e + znam A e) = -2 - nI e := by
  obtain ⟨D, F, T, L, hJ, -⟩ := h.1
  have g := hJ.cv e he h0 hv
  rcases hJ.2.2.2.2.2.1 e he hv with q | ⟨q, -⟩
  · exact absurd q h0
  · refine ⟨q.2.1, ?_, q.2.2.1, g⟩
    by_cases z : znam A e < 5
    · exact z
    · rw [h.2.2.1 _ _ q.2.1 (by omega) q.2.2.2.2] at g
      exact absurd g.symm (zdv e he).2.2
theorem zIv.wf (h : zIv A B t) : zWf A := by
  obtain ⟨D, F, T, L, hJ, -⟩ := h.1
  exact hJ.wf
theorem zIv.ag (h : zIv A B t) : zAg A B := by
  obtain ⟨D, F, T, L, -, hA, -⟩ := h.1
  exact hA
theorem zIv.dp (h : zIv A B t) {d : Nat} (hd : d < 12) (hv : A.2 3 d = 1) : zDp A 11 d := h.wf.2.2 d hd hv
/-- a cell of the law's that stands for a directory -/
theorem zTm.dir (h : zTm A T U V) (hI : zIv A B t) {k e : Nat} (hk : k < 60) (he : e < 12) (g : T k = -2 - nI e) : ¬ e = 0 ∧ A.2 3 e = 1 ∧ zpar A e = k / 5 ∧ znam A e = k % 5 := by
  obtain ⟨D, F, L, -, -, -, hF, hF30, -⟩ := hI.n
  rw [h.1 k hk] at g
  rcases hI.sn hF hF30 (d := k / 5) (n := k % 5) (by omega) (by omega) with q | ⟨f, q1, q2⟩ | ⟨e', q1, q2, q3, q4, q5, q6⟩
  · rw [q] at g
    exact absurd g.symm (zdv e he).2.2
  · rw [q2] at g
    exact absurd g (zfvd (by omega) he)
  · rw [q4] at g
    have := zdvi q1 he g
    subst this
    exact ⟨q2, q3, q5, q6⟩
theorem zTm.th (h : zTm A T U V) (hI : zIv A B t) {d : Nat} (hd : d < 12) : zth T d 60 = true ↔ A.2 3 d = 1 := by
  rw [zth_i]
  constructor
  · rintro (g | ⟨k, hk, g⟩)
    · rw [g]
      exact hI.2.2.2
    · exact (h.dir hI hk hd g).2.1
  · intro hv
    by_cases h0 : d = 0
    · exact Or.inl h0
    · obtain ⟨g1, g2, -, g4⟩ := hI.cv hd h0 hv
      exact Or.inr ⟨5 * zpar A d + znam A d, by omega, by rw [h.at g1 g2]; exact g4⟩
theorem zab_u {x p : Nat} (hu : ∀ k, k < 60 → T k = -2 - nI x → k / 5 = p) : ∀ n, n ≤ 60 → (∃ k, k < n ∧ T k = -2 - nI x) → zab T x n = p
  | 0, _, ⟨k, hk, _⟩ => absurd hk (Nat.not_lt_zero k)
  | n + 1, hn, ⟨k, hk, g⟩ => by
    rw [zab]
    by_cases z : T n = -2 - nI x
    · rw [if_pos z]
      exact hu n (by omega) z
    · rw [if_neg z]
      have : k ≠ n := fun e => z (by rw [← e]; exact g)
      exact zab_u hu n (by omega) ⟨k, by omega, g⟩
theorem zTm.ab (h : zTm A T U V) (hI : zIv A B t) {x : Nat} (hx : x < 12) (h0 : ¬ x = 0) (hv : A.2 3 x = 1) : zab T x 60 = zpar A x := by
  obtain ⟨g1, g2, -, g4⟩ := hI.cv hx h0 hv
  exact zab_u (fun k hk g => (h.dir hI hk hx g).2.2.1.symm) 60 (Nat.le_refl _) ⟨5 * zpar A x + znam A x, by omega, by rw [h.at g1 g2]; exact g4⟩
theorem zcN_b5 (p : Nat → Bool) : ∀ m, zcN p (5 * m) = zsm (fun d => zcN (fun n => p (5 * d + n)) 5) m
  | 0 => rfl
  | m + 1 => by
    rw [Nat.mul_succ, zcN_add, zcN_b5 p m]
    rfl
theorem zTm.us (h : zTm A T U V) (hI : zIv A B t) {d : Nat} (hd : d < 12) : zcN (zpu A d) 50 = zcN (zpq T d) 5 := by
  rw [show 50 = 5 + 45 from rfl, zcN_add, zcN_0 45 (fun k hk => ?_)]
  · rw [Nat.add_zero]
    refine zcN_cg 5 (fun k hk => ?_)
    unfold zpu zpq
    rw [h.at hd hk]
  · unfold zpu
    rw [hI.2.2.1 d (5 + k) hd (by omega) (by omega)]
    decide
theorem zTm.ct (h : zTm A T U V) (hI : zIv A B t) {f : Nat} (hf : f < 30) : zcN (zpl A (nI f)) 600 = zcN (zpc T (nI f)) 60 := by
  rw [show 600 = 50 * 12 from rfl, show 60 = 5 * 12 from rfl, zcN_blk, zcN_b5]
  refine zsm_cg 12 (fun d hd => ?_)
  rw [show 50 = 5 + 45 from rfl, zcN_add, zcN_0 45 (fun k hk => ?_)]
  · rw [Nat.add_zero]
    refine zcN_cg 5 (fun k hk => ?_)
    unfold zpl zpc
    rw [h.at hd hk]
  · unfold zpl
    rw [hI.2.2.1 d (5 + k) hd (by omega) (by omega), decide_eq_true_iff]
    exact fun e => zfv2 hf e.symm
/-- the place of a cell of the law's among the names -/
def zpo (k : Nat) : Nat := 50 * (k / 5) + k % 5
def zcc (U : Nat → Int32) (k : Nat) : Option Nat → Option Nat
  | none => some k
  | some i => if U k < U i then some k else some i
theorem zol_s {f : Int32} {k : Nat} (g : T k = f) {o : Option Nat} (ho : zol T U f k = o) : zol T U f (k + 1) = zcc U k o := by
  subst ho
  rw [zol, if_pos g]
  cases zol T U f k <;> rfl
theorem zTm.a1 (h : zTm A T U V) {f d : Nat} (hd : d < 12) (ih : zAn A (nI f) (50 * d) = (zol T U (nI f) (5 * d)).map zpo) : ∀ m, m ≤ 5 → zAn A (nI f) (50 * d + m) = (zol T U (nI f) (5 * d + m)).map zpo
  | 0, _ => ih
  | m + 1, hm => by
    have i1 := h.a1 hd ih m (by omega)
    have e1 := h.at hd (n := m) (by omega)
    show zAn A (nI f) (50 * d + m + 1) = (zol T U (nI f) (5 * d + m + 1)).map zpo
    rw [zAn]
    by_cases g : A.2 6 (50 * d + m) = nI f
    · rw [if_pos g]
      cases ho : zol T U (nI f) (5 * d + m) with
      | none =>
        rw [ho] at i1
        rw [i1, zol_s (by rw [e1]; exact g) ho]
        show some (50 * d + m) = some (zpo (5 * d + m))
        rw [zpo, show (5 * d + m) / 5 = d by omega, show (5 * d + m) % 5 = m by omega]
      | some i =>
        have hi := zol_lt ho
        have u1 : U i = A.2 7 (zpo i) := h.2.1 i (by omega)
        have u2 : U (5 * d + m) = A.2 7 (50 * d + m) := by
          rw [h.2.1 _ (by omega), show 50 * ((5 * d + m) / 5) + (5 * d + m) % 5 = 50 * d + m by omega]
        rw [ho] at i1
        rw [i1, zol_s (by rw [e1]; exact g) ho]
        show (if A.2 7 (zpo i) ≤ A.2 7 (50 * d + m) then some (zpo i) else some (50 * d + m)) = (if U (5 * d + m) < U i then some (5 * d + m) else some i).map zpo
        rw [u1, u2]
        by_cases z : A.2 7 (zpo i) ≤ A.2 7 (50 * d + m)
        · rw [if_pos z, if_neg (Int32.not_lt.mpr z)]
          rfl
        · rw [if_neg z, if_pos (Int32.not_le.mp z)]
          show some (50 * d + m) = some (zpo (5 * d + m))
          rw [zpo, show (5 * d + m) / 5 = d by omega, show (5 * d + m) % 5 = m by omega]
    · rw [if_neg g, i1, zol, if_neg (by rw [e1]; exact g)]
theorem zIv.a2 (hI : zIv A B t) {f d : Nat} (hf : f < 30) (hd : d < 12) : ∀ m, 5 + m ≤ 50 → zAn A (nI f) (50 * d + (5 + m)) = zAn A (nI f) (50 * d + 5)
  | 0, _ => rfl
  | m + 1, hm => by
    show zAn A (nI f) (50 * d + (5 + m) + 1) = _
    rw [zAn, if_neg (by rw [hI.2.2.1 d (5 + m) hd (by omega) (by omega)]; exact fun e => zfv2 hf e.symm), hI.a2 hf hd m (by omega)]
theorem zTm.a3 (h : zTm A T U V) (hI : zIv A B t) {f : Nat} (hf : f < 30) : ∀ d, d ≤ 12 → zAn A (nI f) (50 * d) = (zol T U (nI f) (5 * d)).map zpo
  | 0, _ => rfl
  | d + 1, hd => by
    have ih := h.a3 hI hf d (by omega)
    have g := h.a1 (by omega) ih 5 (Nat.le_refl _)
    rw [show 50 * (d + 1) = 50 * d + (5 + 45) by omega, hI.a2 hf (by omega) 45 (by omega), g, show 5 * (d + 1) = 5 * d + 5 by omega]
/-- what the anchor is, by the law's rows -/
def zoa : Option Nat → Int32
  | none => -1
  | some k => nI (100 * (k / 5) + k % 5)
theorem zTm.an (h : zTm A T U V) (hI : zIv A B t) (ht : t ≤ 600) {f : Nat} (hf : f < 30) : za1 (zac B (nI f) 12) = zoa (zol T U (nI f) 60) := by
  obtain ⟨D, F, T9, L, hJ, hA, hl, he, hu⟩ := id hI.1
  have g := zanc2 hJ hA he (by have := hJ.2.1.2; omega) hf 12 (Nat.le_refl _)
  have g3 := h.a3 hI hf 12 (Nat.le_refl _)
  cases ho : zol T U (nI f) 60 with
  | none =>
    rw [show 5 * 12 = 60 from rfl, ho] at g3
    rcases g with ⟨-, g2⟩ | ⟨i, g1, -⟩
    · rw [g2]
      rfl
    · rw [g3] at g1
      exact absurd g1 (by simp)
  | some k =>
    rw [show 5 * 12 = 60 from rfl, ho] at g3
    rcases g with ⟨g1, -⟩ | ⟨i, g1, g2⟩
    · rw [g3] at g1
      exact absurd g1 (by simp)
    · rw [g3] at g1
      have e : zpo k = i := Option.some.inj g1
      rw [g2]
      show nI (100 * (i / 50) + i % 50) = nI (100 * (k / 5) + k % 5)
      rw [← e, zpo, show (50 * (k / 5) + k % 5) / 50 = k / 5 by omega, show (50 * (k / 5) + k % 5) % 50 = k % 5 by omega]
theorem zoi_0 (o : Option Nat) {k : Nat} (h : ∀ i, o = some i → i < k) (hk : k ≤ 60) : (o = none ∧ zoi o < 0) ∨ ∃ i, o = some i ∧ i < k ∧ zoi o = nI i ∧ ¬ zoi o < 0 := by
  cases o with
  | none => exact Or.inl ⟨rfl, by decide⟩
  | some i =>
    have hi := h i rfl
    exact Or.inr ⟨i, rfl, hi, rfl, nI_pos (by omega)⟩
end ZPU
