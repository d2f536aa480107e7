/-! leases on both sides -/
def zLs (A B : ZA) : Prop := ∀ c d n, c < 4 → d < 12 → n < 50 → (A.2 3 d = 1 → B.2 13 (600 * c + (50 * d + n)) = A.2 13 (600 * c + (50 * d + n)) ∨ (A.2 13 (600 * c + (50 * d + n)) ≤ A.1 1 ∧ B.2 13 (600 * c + (50 * d + n)) ≤ A.1 1)) ∧ (¬ A.2 3 d = 1 → A.2 13 (600 * c + (50 * d + n)) ≤ A.1 1)
section ZSB
variable {A B A' B' : ZA}
theorem zLs.cg (h : zLs A B) (h1 : A'.1 1 = A.1 1) (h3 : A'.2 3 = A.2 3) (ha : A'.2 13 = A.2 13) (hb : B'.2 13 = B.2 13) : zLs A' B' := by
  unfold zLs
  rw [h1, h3, ha, hb]
  exact h
/-- a lease runs on both sides or on none -/
theorem zLs.run (h : zLs A B) {c d n : Nat} (hc : c < 4) (hd : d < 12) (hn : n < 50) (hv : A.2 3 d = 1) : (A.1 1 < B.2 13 (600 * c + (50 * d + n)) ↔ A.1 1 < A.2 13 (600 * c + (50 * d + n))) := by
  rcases (h c d n hc hd hn).1 hv with e | ⟨e1, e2⟩
  · rw [e]
  · exact ⟨fun g => absurd g (zltge e2), fun g => absurd g (zltge e1)⟩
/-- one place changes, to the same, or to what doesn't run -/
theorem zLs.set (h : zLs A B) {j : Nat} {v w : Int32} (hvw : v = w ∨ (v ≤ A.1 1 ∧ w ≤ A.1 1)) (hd : ∀ c d n, c < 4 → d < 12 → n < 50 → 600 * c + (50 * d + n) = j → A.2 3 d = 1) : zLs (zsa A 13 j v) (zsa B 13 j w) := by
  intro c d n h1 h2 h3
  have g := h c d n h1 h2 h3
  rw [zsa_1, zsa_n A 13 j v 3 (by decide), zsa_2, zsa_2]
  by_cases e : 600 * c + (50 * d + n) = j
  · rw [if_pos ⟨rfl, e⟩, if_pos ⟨rfl, e⟩]
    refine ⟨fun _ => ?_, fun z => absurd (hd c d n h1 h2 h3 e) z⟩
    rcases hvw with e1 | e2
    · exact Or.inl e1.symm
    · exact Or.inr e2
  · rw [if_neg (fun z => e z.2), if_neg (fun z => e z.2)]
    exact g
theorem zLs.setA (h : zLs A B) {j : Nat} {v : Int32} (hv : v ≤ A.1 1) (hb : B.2 13 j ≤ A.1 1) : zLs (zsa A 13 j v) B := by
  intro c d n h1 h2 h3
  have g := h c d n h1 h2 h3
  rw [zsa_1, zsa_n A 13 j v 3 (by decide), zsa_2]
  by_cases e : 600 * c + (50 * d + n) = j
  · rw [if_pos ⟨rfl, e⟩, e]
    exact ⟨fun _ => Or.inr ⟨hv, hb⟩, fun _ => hv⟩
  · rw [if_neg (fun z => e z.2)]
    exact g
theorem zdj {c d n c' d' n' : Nat} (h1 : d < 12) (h2 : n < 50) (h3 : d' < 12) (h4 : n' < 50) (e : 600 * c + (50 * d + n) = 600 * c' + (50 * d' + n')) : c = c' ∧ d = d' ∧ n = n' := by omega
/-- one client's lease ends -/
theorem zEl1 (h : zAg A B) (hl : zLs A B) {k d n : Nat} (hk : k < 4) (hd : d < 12) (hn : n < 50) (hv : A.2 3 d = 1) (ex : Int32) (h0 : nI 0 ≤ A.1 1) :
    zAg (zsa (zsa A 14 k (A.2 14 k + (if ¬ nI k = ex ∧ A.1 1 < A.2 13 (600 * k + (50 * d + n)) then nI 1 else nI 0))) 13 (600 * k + (50 * d + n)) (nI 0)) (if A.1 1 < B.2 13 (600 * k + (50 * d + n)) then (if nI k = ex then zsa B 13 (600 * k + (50 * d + n)) (A.1 1) else zsa (zsa B 13 (600 * k + (50 * d + n)) (A.1 1)) 14 k (B.2 14 k + nI 1)) else B)
    ∧ zLs (zsa (zsa A 14 k (A.2 14 k + (if ¬ nI k = ex ∧ A.1 1 < A.2 13 (600 * k + (50 * d + n)) then nI 1 else nI 0))) 13 (600 * k + (50 * d + n)) (nI 0)) (if A.1 1 < B.2 13 (600 * k + (50 * d + n)) then (if nI k = ex then zsa B 13 (600 * k + (50 * d + n)) (A.1 1) else zsa (zsa B 13 (600 * k + (50 * d + n)) (A.1 1)) 14 k (B.2 14 k + nI 1)) else B) := by
  have hr := hl.run hk hd hn hv
  have hal : ∀ c' d' n', c' < 4 → d' < 12 → n' < 50 → 600 * c' + (50 * d' + n') = 600 * k + (50 * d + n) → A.2 3 d' = 1 := fun c' d' n' _ h2 h3 e => by
    have := (zdj h2 h3 hd hn e).2.1
    rw [this]
    exact hv
  have id14 : zsa A 14 k (A.2 14 k + nI 0) = A := by
    refine Prod.ext rfl (funext fun i => funext fun x => ?_)
    rw [zsa_2, zadd0]
    by_cases e : i = 14 ∧ x = k
    · rw [if_pos e, e.1, e.2]
    · rw [if_neg e]
  by_cases h1 : A.1 1 < B.2 13 (600 * k + (50 * d + n))
  · have h2 := hr.mp h1
    rw [if_pos h1]
    by_cases he : nI k = ex
    · rw [if_pos he, if_neg (fun z => z.1 he), id14]
      exact ⟨(h.l13 _ _).r13 _ _, hl.set (Or.inr ⟨h0, Int32.le_refl _⟩) hal⟩
    · rw [if_neg he, if_pos ⟨he, h2⟩, h.k 14 (by decide), zsa_cm B (show (13 : Nat) ≠ 14 by decide)]
      refine ⟨((h.sa 14 k _).l13 _ _).r13 _ _, ?_⟩
      have g : zLs (zsa A 14 k (A.2 14 k + nI 1)) (zsa B 14 k (A.2 14 k + nI 1)) := hl.cg rfl (zsa_n _ _ _ _ _ (by decide)) (zsa_n _ _ _ _ _ (by decide)) (zsa_n _ _ _ _ _ (by decide))
      exact g.set (Or.inr ⟨h0, Int32.le_refl _⟩) (fun c' d' n' q1 q2 q3 q4 => by rw [zsa_n _ _ _ _ _ (by decide)]; exact hal c' d' n' q1 q2 q3 q4)
  · rw [if_neg h1, if_neg (fun z => h1 (hr.mpr z.2)), id14]
    exact ⟨h.l13 _ _, hl.setA h0 (Int32.not_lt.mp h1)⟩
theorem zEl (h : zAg A B) (hl : zLs A B) {d n : Nat} (hd : d < 12) (hn : n < 50) (hv : A.2 3 d = 1) (ex : Int32) (h0 : nI 0 ≤ A.1 1) : ∀ k, k ≤ 4 → zAg (zEn A (50 * d + n) ex k) (zel B (50 * d + n) ex k) ∧ zLs (zEn A (50 * d + n) ex k) (zel B (50 * d + n) ex k)
  | 0, _ => ⟨h, hl⟩
  | k + 1, hk => by
    have ih := zEl h hl hd hn hv ex h0 k (by omega)
    have e1 : (zEn A (50 * d + n) ex k).1 1 = A.1 1 := by rw [zEn_1]
    have e2 : B.1 1 = (zEn A (50 * d + n) ex k).1 1 := by rw [e1, h.1]
    have g := zEl1 ih.1 ih.2 (k := k) (by omega) hd hn (by rw [zEn_2 _ _ _ (by decide) (by decide)]; exact hv) ex (by rw [e1]; exact h0)
    rw [zEn, zel, e2]
    exact g
/-- a client changes a name -/
theorem zCn (h : zAg A B) (hl : zLs A B) {d n : Nat} (hd : d < 12) (hn : n < 50) (hv : A.2 3 d = 1) (c m g : Int32) (h0 : nI 0 ≤ A.1 1) : zAg (zsa (zCh A c d n) 6 (50 * d + n) m) (zcn B c d n m g) ∧ zLs (zsa (zCh A c d n) 6 (50 * d + n) m) (zcn B c d n m g) := by
  rw [← zCh_6]
  unfold zCh zcn
  have e : zfn (zsa A 6 (50 * d + n) m) d n = zfn B d n := by rw [h.fn]; unfold zfn; rw [zsa_n _ _ _ _ _ (by decide)]
  have e12 : (zsa A 6 (50 * d + n) m).2 12 (zfn B d n) = B.2 12 (zfn B d n) := by rw [zsa_n _ _ _ _ _ (by decide), h.k 12 (by decide)]
  rw [e, e12]
  refine zEl (((h.sa 6 _ m).r7 _ g).sa 12 _ _) (hl.cg rfl ?_ ?_ ?_) hd hn ?_ c h0 4 (Nat.le_refl _)
  · rw [zsa_n _ _ _ _ _ (by decide), zsa_n _ _ _ _ _ (by decide)]
  · rw [zsa_n _ _ _ _ _ (by decide), zsa_n _ _ _ _ _ (by decide)]
  · rw [zsa_n _ _ _ _ _ (by decide), zsa_n _ _ _ _ _ (by decide), zsa_n _ _ _ _ _ (by decide)]
  · rw [zsa_n _ _ _ _ _ (by decide), zsa_n _ _ _ _ _ (by decide)]
    exact hv
theorem zcn_6 (B : ZA) (c : Int32) (d n : Nat) (m g : Int32) (j : Nat) : (zcn B c d n m g).2 6 j = if j = 50 * d + n then m else B.2 6 j := by
  unfold zcn
  rw [(zel_sme _ _ _ 4).2 6 (by decide) (by decide), zsa_n _ _ _ _ _ (by decide), zsa_n _ _ _ _ _ (by decide), zsa_2]
  by_cases e : j = 50 * d + n
  · rw [if_pos ⟨rfl, e⟩, if_pos e]
  · rw [if_neg (fun z => e z.2), if_neg e]
theorem zcn_7 (B : ZA) (c : Int32) (d n : Nat) (m g : Int32) (j : Nat) : (zcn B c d n m g).2 7 j = if j = 50 * d + n then g else B.2 7 j := by
  unfold zcn
  rw [(zel_sme _ _ _ 4).2 7 (by decide) (by decide), zsa_n _ _ _ _ _ (by decide), zsa_2]
  by_cases e : j = 50 * d + n
  · rw [if_pos ⟨rfl, e⟩, if_pos e]
  · rw [if_neg (fun z => e z.2), if_neg e, zsa_n _ _ _ _ _ (by decide)]
theorem zel_13 (B : ZA) (a : Nat) (ex : Int32) {j : Nat} : ∀ k, (∀ c, c < k → j ≠ 600 * c + a) → (zel B a ex k).2 13 j = B.2 13 j
  | 0, _ => rfl
  | k + 1, h => by
    have ih := zel_13 B a ex k (fun c hc => h c (by omega))
    have hk := h k (by omega)
    unfold zel
    split
    · split
      · rw [zsa_2, if_neg (fun z => hk z.2)]
        exact ih
      · rw [zsa_n _ _ _ _ _ (by decide), zsa_2, if_neg (fun z => hk z.2)]
        exact ih
    · exact ih
theorem zcn_13 (B : ZA) (c : Int32) (d n : Nat) (m g : Int32) {j : Nat} (h : ∀ c, c < 4 → j ≠ 600 * c + (50 * d + n)) : (zcn B c d n m g).2 13 j = B.2 13 j := by
  unfold zcn
  rw [zel_13 _ _ _ 4 h, zsa_n _ _ _ _ _ (by decide), zsa_n _ _ _ _ _ (by decide), zsa_n _ _ _ _ _ (by decide)]
/-- directories that are not made yet are empty -/
def zUm (B : ZA) (D : Nat) : Prop := ∀ e, D ≤ e → e < 12 → zNv B e
theorem zUm.cn {D : Nat} (h : zUm B D) {d n : Nat} (hd : d < D) (hn : n < 50) (c m g : Int32) : zUm (zcn B c d n m g) D := by
  intro e h1 h2 k hk
  obtain ⟨g1, g2, g3⟩ := h e h1 h2 k hk
  refine ⟨?_, ?_, fun c' hc' => ?_⟩
  · rw [zcn_6, if_neg (by omega)]
    exact g1
  · rw [zcn_7, if_neg (by omega)]
    exact g2
  · rw [zcn_13 _ _ _ _ _ _ (fun c'' _ => by omega)]
    exact g3 c' hc'
theorem zUm.cg {D : Nat} (h : zUm B D) (h6 : B'.2 6 = B.2 6) (h7 : B'.2 7 = B.2 7) (h13 : B'.2 13 = B.2 13) : zUm B' D := by
  unfold zUm zNv
  rw [h6, h7, h13]
  exact h
/-- ages of links: the class's are one more -/
def zAe (A B : ZA) (L : Nat) : Prop := ∀ k f, k < 600 → f < 30 → A.2 6 k = nI f → ∃ a, a < L ∧ A.2 7 k = nI a ∧ B.2 7 k = nI (a + 1)
theorem zAe.cg {L : Nat} (h : zAe A B L) (h6 : A'.2 6 = A.2 6) (h7 : A'.2 7 = A.2 7) (h7' : B'.2 7 = B.2 7) : zAe A' B' L := by
  unfold zAe
  rw [h6, h7, h7']
  exact h
theorem zAe.le {L L' : Nat} (h : zAe A B L) (hL : L ≤ L') : zAe A B L' := fun k f h1 h2 h3 => by
  obtain ⟨a, g1, g2⟩ := h k f h1 h2 h3
  exact ⟨a, by omega, g2⟩
end ZSB
