/-! sums over names, directories and fragments -/
section ZSE
variable {A B A' B' : ZA} {t D F T L : Nat}
theorem zcN_cg {p q : Nat → Bool} : ∀ n, (∀ k, k < n → p k = q k) → zcN p n = zcN q n
  | 0, _ => rfl
  | n + 1, h => by rw [zcN, zcN, zcN_cg n (fun k hk => h k (by omega)), h n (by omega)]
theorem zcN_0 {p : Nat → Bool} : ∀ n, (∀ k, k < n → ¬ p k = true) → zcN p n = 0
  | 0, _ => rfl
  | n + 1, h => by rw [zcN_f (h n (by omega)), zcN_0 n (fun k hk => h k (by omega))]
theorem zcN_add (p : Nat → Bool) (a : Nat) : ∀ b, zcN p (a + b) = zcN p a + zcN (fun k => p (a + k)) b
  | 0 => rfl
  | b + 1 => by
    show zcN p (a + b) + (if p (a + b) = true then 1 else 0) = zcN p a + (zcN (fun k => p (a + k)) b + (if p (a + b) = true then 1 else 0))
    rw [zcN_add p a b]
    omega
theorem zcN_blk (p : Nat → Bool) : ∀ m, zcN p (50 * m) = zsm (fun d => zcN (fun n => p (50 * d + n)) 50) m
  | 0 => rfl
  | m + 1 => by
    rw [Nat.mul_succ, zcN_add, zcN_blk p m]
    rfl
theorem zsm_cg {g g' : Nat → Nat} : ∀ n, (∀ k, k < n → g k = g' k) → zsm g n = zsm g' n
  | 0, _ => rfl
  | n + 1, h => by rw [zsm, zsm, zsm_cg n (fun k hk => h k (by omega)), h n (by omega)]
theorem zcN_one {p q : Nat → Bool} {a : Nat} (ha : ¬ p a = true) (hq : q a = true) (h : ∀ k, k ≠ a → q k = p k) : ∀ n, zcN q n = zcN p n + if a < n then 1 else 0
  | 0 => by rw [if_neg (Nat.not_lt_zero a)]; rfl
  | n + 1 => by
    have ih := zcN_one ha hq h n
    by_cases e : n = a
    · subst e
      rw [zcN_t hq, zcN_f ha, ih, if_neg (Nat.lt_irrefl n), if_pos (Nat.lt_succ_self n)]
    · rw [zcN, zcN, ih, h n e]
      by_cases e2 : a < n
      · rw [if_pos e2, if_pos (show a < n + 1 by omega)]
        omega
      · rw [if_neg e2, if_neg (show ¬ a < n + 1 by omega)]
        omega
theorem zleases (hA : zAg A B) (hl : zLs A B) {c : Nat} (hc : c < 4) : zcN (zpr A c) 600 = zsm (zkt B c) 12 := by
  rw [show 600 = 50 * 12 from rfl, zcN_blk]
  refine zsm_cg 12 (fun d hd => ?_)
  unfold zkt
  rw [hA.k 3 (by decide), hA.1]
  by_cases hv : A.2 3 d = 1
  · rw [if_pos hv]
    refine zcN_cg 50 (fun n hn => ?_)
    unfold zpr zpt
    exact decide_eq_decide.mpr (hl.run hc hd hn hv).symm
  · rw [if_neg hv]
    refine zcN_0 50 (fun n hn => ?_)
    unfold zpr
    rw [decide_eq_true_iff]
    exact zltge ((hl c d n hc hd hn).2 hv)
theorem zfv2 {f : Nat} (hf : f < 30) : ¬ nI f = -1 := (zfv' f hf).2
theorem zfvd {f e : Nat} (hf : f < 30) (he : e < 12) : ¬ nI f = -2 - nI e := fun h => (zdv e he).1 (by rw [← h]; exact (zfv' f hf).1)
theorem zdvi {e e' : Nat} (he : e < 12) (he' : e' < 12) (h : (-2 - nI e : Int32) = -2 - nI e') : e = e' := by
  have h1 := (zdv e he).2.1
  rw [h, (zdv e' he').2.1] at h1
  exact ((nI_eq (by omega) (by omega)).mp h1).symm
theorem zJ.sn (h : zJ A t D F T L) : zSn A F := h.2.2.2.2.2.2.2.2.1
theorem zJ.dead (h : zJ A t D F T L) {d n : Nat} (hd : d < 12) (hn : n < 50) (hv : ¬ A.2 3 d = 1) : A.2 6 (50 * d + n) = -1 := (h.sn d n hd hn).elim id (fun g => absurd g.1 hv)
theorem zlinks (hJ : zJ A t D F T L) (hA : zAg A B) {f : Nat} (hf : f < 30) : zcN (zpl A (nI f)) 600 = zsm (zkl B (nI f)) 12 := by
  rw [show 600 = 50 * 12 from rfl, zcN_blk]
  refine zsm_cg 12 (fun d hd => ?_)
  unfold zkl
  rw [hA.k 3 (by decide)]
  by_cases hv : A.2 3 d = 1
  · rw [if_pos hv]
    unfold zpl zpf
    rw [hA.k 6 (by decide)]
  · rw [if_neg hv]
    refine zcN_0 50 (fun n hn => ?_)
    unfold zpl
    rw [decide_eq_true_iff, hJ.dead hd hn hv]
    exact fun e => zfv2 hf e.symm
theorem zHc.le {S : Nat → Int32} {d : Nat} {c : List Nat} (hc : zHc S d c) {h : Nat} (hh : h < 8) : S (8 * d + h) ≤ 0 ↔ S (8 * d + h) = 0 := by
  have h1 := (zcf_a c hc.1).1 h hh
  rw [hc.2 h hh]
  constructor
  · intro g
    have h2 : c.getD h 0 ≤ 0 := (nI_leI (by omega) (by decide)).mp (show nI (c.getD h 0) ≤ nI 0 from g)
    rw [show c.getD h 0 = 0 by omega]
    rfl
  · intro g
    rw [g]
    exact Int32.le_refl 0
theorem zJ.cf (h : zJ A t D F T L) : zCf A := h.2.2.2.2.2.2.2.1
theorem zJ.dz (h : zJ A t D F T L) : zDz A := h.2.2.2.2.2.2.1
theorem zJ.bas (h : zJ A t D F T L) : zBas A D := h.2.2.2.1
theorem zJ.le0 (h : zJ A t D F T L) {f : Nat} (hf : f < 96) : A.2 10 f ≤ 0 ↔ A.2 10 f = 0 := by
  by_cases hv : A.2 3 (f / 8) = 1
  · obtain ⟨c, hc⟩ := h.cf (f / 8) (by omega) hv
    have g := hc.le (h := f % 8) (by omega)
    rwa [show 8 * (f / 8) + f % 8 = f by omega] at g
  · have e : A.2 10 f = 0 := by
      by_cases e : A.2 10 f = 0
      · exact e
      · exact absurd (h.dz f hf e) hv
    rw [e]
    exact ⟨fun _ => rfl, fun _ => Int32.le_refl 0⟩
theorem zcount (h : zJ A t D F T L) (hA : zAg A B) {d : Nat} (hd : d < 12) : zcN (zps A d) 8 = zcN (zpz B d) 8 := by
  refine zcN_cg 8 (fun k hk => ?_)
  unfold zps zpz
  rw [hA.k 10 (by decide)]
  exact congrArg Bool.not (decide_eq_decide.mpr (h.le0 (f := 8 * d + k) (by omega)))
theorem zVf_i (h : zJ A t D F T L) (hA : zAg A B) {k : Nat} (hk : k < 96) : zVf B k ↔ ¬ A.2 10 k ≤ 0 := by
  unfold zVf
  rw [hA.k 3 (by decide), hA.k 10 (by decide), h.le0 hk]
  exact ⟨fun g => g.2, fun g => ⟨h.dz k hk g, g⟩⟩
theorem zload1 (h : zJ A t D F T L) (hA : zAg A B) (s : Int32) : ∀ k, k ≤ 96 → zlS A s k = zlc B s k
  | 0, _ => rfl
  | k + 1, hk => by
    have ih := zload1 h hA s k (by omega)
    rw [zlS, zlc, ih, hA.sv]
    by_cases g : ¬ A.2 10 k ≤ 0 ∧ zsv A k = s
    · rw [if_pos g, if_pos ⟨(zVf_i h hA (by omega)).mpr g.1, g.2⟩, hA.k 12 (by decide)]
    · rw [if_neg g, if_neg (fun z => g ⟨(zVf_i h hA (by omega)).mp z.1, z.2⟩), zadd0]
theorem zJ.al (h : zJ A t D F T L) {d : Nat} (hd : d < 12) (hv : A.2 3 d = 1) : d < D := by
  rcases h.bas.2.2.2 d hd with g | g
  · exact g.2
  · rw [g] at hv
    exact absurd hv (by decide)
theorem zJ.gap (h : zJ A t D F T L) {f : Nat} (hf : f < 96) (hD : 8 * D ≤ f) : A.2 10 f = 0 := by
  by_cases e : A.2 10 f = 0
  · exact e
  · have := h.al (d := f / 8) (by omega) (h.dz f hf e)
    omega
theorem zload2 (h : zJ A t D F T L) (s : Int32) : ∀ n, 8 * D + n ≤ 96 → zlS A s (8 * D + n) = zlS A s (8 * D)
  | 0, _ => rfl
  | n + 1, hn => by
    show zlS A s (8 * D + n) + (if ¬ A.2 10 (8 * D + n) ≤ 0 ∧ zsv A (8 * D + n) = s then A.2 12 (8 * D + n) else nI 0) = _
    rw [zload2 h s n (by omega), if_neg (fun z => z.1 (by rw [h.gap (by omega) (by omega)]; exact Int32.le_refl 0)), zadd0]
theorem zload (h : zJ A t D F T L) (hA : zAg A B) (s : Int32) : zlS A s (8 * D) = zlc B s 96 := by
  have h1 := h.bas.2.2.1
  rw [← zload1 h hA s 96 (Nat.le_refl _)]
  have h2 := zload2 h s (96 - 8 * D) (by omega)
  rw [show 8 * D + (96 - 8 * D) = 96 by omega] at h2
  exact h2.symm
/-! the anchor -/
def zcb (A : ZA) (o p : Option Nat) : Option Nat := match p with
  | none => o
  | some j => match o with
    | none => some j
    | some i => if A.2 7 i ≤ A.2 7 j then some i else some j
theorem zAn_f {A : ZA} {f : Int32} : ∀ {k j : Nat}, zAn A f k = some j → A.2 6 j = f
  | 0, _, h => nomatch h
  | k + 1, j, h => by
    unfold zAn at h
    split at h
    · rename_i h1
      split at h
      · cases h; exact h1
      · rename_i i hi
        split at h
        · cases h; exact zAn_f hi
        · cases h; exact h1
    · exact zAn_f h
theorem zOl_f {B : ZA} {d : Nat} {f : Int32} : ∀ {k j : Nat}, zOl B d f k = some j → B.2 6 (50 * d + j) = f
  | 0, _, h => nomatch h
  | k + 1, j, h => by
    unfold zOl at h
    split at h
    · rename_i h1
      split at h
      · cases h; exact h1
      · rename_i i hi
        split at h
        · cases h; exact zOl_f hi
        · cases h; exact h1
    · exact zOl_f h
/-- the ages of two links to a file compare alike on both sides -/
theorem zAe.cmp (he : zAe A B L) (hL : L ≤ 600) {f i j : Nat} (hf : f < 30) (hi : i < 600) (hj : j < 600) (e1 : A.2 6 i = nI f) (e2 : A.2 6 j = nI f) : (B.2 7 i ≤ B.2 7 j ↔ A.2 7 i ≤ A.2 7 j) := by
  obtain ⟨a, a1, a2, a3⟩ := he i f hi hf e1
  obtain ⟨b, b1, b2, b3⟩ := he j f hj hf e2
  rw [a2, a3, b2, b3, nI_leI (by omega) (by omega), nI_leI (by omega) (by omega)]
  omega
theorem zanc1 (hA : zAg A B) (he : zAe A B L) (hL : L ≤ 600) {f d : Nat} (hf : f < 30) (hd : d < 12) : ∀ m, m ≤ 50 → zAn A (nI f) (50 * d + m) = zcb A (zAn A (nI f) (50 * d)) ((zOl B d (nI f) m).map (fun j => 50 * d + j))
  | 0, _ => rfl
  | m + 1, hm => by
    have ih := zanc1 hA he hL hf hd m (by omega)
    show zAn A (nI f) (50 * d + m + 1) = _
    rw [zAn, zOl, hA.k 6 (by decide), ih]
    by_cases h1 : A.2 6 (50 * d + m) = nI f
    · rw [if_pos h1, if_pos h1]
      cases ho : zOl B d (nI f) m with
      | none =>
        cases hp : zAn A (nI f) (50 * d) with
        | none => rfl
        | some i => rfl
      | some j =>
        have hj := zOl_lt ho
        have hjf : A.2 6 (50 * d + j) = nI f := by rw [← hA.k 6 (by decide)]; exact zOl_f ho
        have c1 := he.cmp hL hf (i := 50 * d + j) (j := 50 * d + m) (by omega) (by omega) hjf h1
        cases hp : zAn A (nI f) (50 * d) with
        | none =>
          by_cases g : A.2 7 (50 * d + j) ≤ A.2 7 (50 * d + m)
          · simp only [zcb, Option.map_some, if_pos g, if_pos (c1.mpr g)]
          · simp only [zcb, Option.map_some, if_neg g, if_neg (fun z => g (c1.mp z))]
        | some i =>
          by_cases g : A.2 7 (50 * d + j) ≤ A.2 7 (50 * d + m)
          · by_cases g2 : A.2 7 i ≤ A.2 7 (50 * d + j)
            · simp only [zcb, Option.map_some, if_pos g, if_pos (c1.mpr g), if_pos g2, if_pos (Int32.le_trans g2 g)]
            · simp only [zcb, Option.map_some, if_pos g, if_pos (c1.mpr g), if_neg g2]
          · by_cases g2 : A.2 7 i ≤ A.2 7 (50 * d + j)
            · simp only [zcb, Option.map_some, if_neg g, if_neg (fun z => g (c1.mp z)), if_pos g2]
            · have g3 : ¬ A.2 7 i ≤ A.2 7 (50 * d + m) := fun z => g2 (Int32.le_trans z (Int32.le_of_lt (Int32.not_le.mp g)))
              simp only [zcb, Option.map_some, if_neg g, if_neg (fun z => g (c1.mp z)), if_neg g2, if_neg g3]
    · rw [if_neg h1, if_neg h1]
/-- both sides have found the same link -/
def zsl (B : ZA) (o : Option Nat) (p : Option (Nat × Int32)) : Prop := (o = none ∧ p = none) ∨ ∃ i, o = some i ∧ p = some (100 * (i / 50) + i % 50, B.2 7 i)
theorem zanc2 (hJ : zJ A t D F T L) (hA : zAg A B) (he : zAe A B L) (hL : L ≤ 600) {f : Nat} (hf : f < 30) : ∀ k, k ≤ 12 → zsl B (zAn A (nI f) (50 * k)) (zac B (nI f) k)
  | 0, _ => Or.inl ⟨rfl, rfl⟩
  | k + 1, hk => by
    have ih := zanc2 hJ hA he hL hf k (by omega)
    have h1 := zanc1 hA he hL hf (d := k) (by omega) 50 (Nat.le_refl _)
    rw [Nat.mul_succ, h1, zac, hA.k 3 (by decide)]
    by_cases hv : A.2 3 k = 1
    · rw [if_pos hv]
      cases ho : zOl B k (nI f) 50 with
      | none => exact ih
      | some j =>
        have hj := zOl_lt ho
        have hjf : A.2 6 (50 * k + j) = nI f := by rw [← hA.k 6 (by decide)]; exact zOl_f ho
        have e1 : 100 * ((50 * k + j) / 50) + (50 * k + j) % 50 = 100 * k + j := by omega
        rcases ih with ⟨i1, i2⟩ | ⟨i, i1, i2⟩
        · rw [i1, i2]
          exact Or.inr ⟨50 * k + j, rfl, by rw [e1]⟩
        · have hi := zAn_lt i1
          have c1 := he.cmp hL hf (i := i) (j := 50 * k + j) (by omega) (by omega) (zAn_f i1) hjf
          rw [i1, i2]
          by_cases g : A.2 7 i ≤ A.2 7 (50 * k + j)
          · simp only [zcb, Option.map_some, if_pos g, if_pos (c1.mpr g)]
            exact Or.inr ⟨i, rfl, rfl⟩
          · simp only [zcb, Option.map_some, if_neg g, if_neg (fun z => g (c1.mp z))]
            exact Or.inr ⟨50 * k + j, rfl, by rw [e1]⟩
    · rw [if_neg hv]
      cases ho : zOl B k (nI f) 50 with
      | none => exact ih
      | some j =>
        have hj := zOl_lt ho
        have hjf : A.2 6 (50 * k + j) = nI f := by rw [← hA.k 6 (by decide)]; exact zOl_f ho
        rw [hJ.dead (by omega) hj hv] at hjf
        exact absurd hjf.symm (zfv2 hf)
end ZSE
