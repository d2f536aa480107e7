/-! the class's state may be read otherwise where nothing hangs on it -/
section ZSD
variable {M : ZM} {W : Nat → Nat → Nat} {A B A' B' : ZA}
theorem zVal.nrm (h3 : B'.2 3 = B.2 3) (h10 : ∀ j, B.2 3 (j / 8) = 1 → B'.2 10 j = B.2 10 j) : ∀ {i j : Nat}, zVal B' i j → zVal B i j
  | 0, _, h => h
  | 1, _, h => h
  | 2, _, h => h
  | 3, j, h => ⟨h.1, by rw [← h3]; exact h.2⟩
  | 4, j, h => ⟨h.1, by rw [← h3]; exact h.2⟩
  | 5, j, h => ⟨h.1, by rw [← h3]; exact h.2⟩
  | 6, j, h => ⟨h.1, by rw [← h3]; exact h.2⟩
  | 7, j, h => ⟨h.1, by rw [← h3]; exact h.2⟩
  | 8, j, h => ⟨h.1, by rw [← h3]; exact h.2⟩
  | 9, j, h => ⟨h.1, by rw [← h3]; exact h.2.1, fun e => h.2.2 (by rw [h10 j (by rw [← h3]; exact h.2.1)]; exact e)⟩
  | 10, _, h => h
  | i + 11, _, h => absurd h.lt (by omega)
theorem zOb.n10 {s : Nat → Int32} {z z' : Nat → Nat → Int32} {j : Nat} (h : zOb M W (s, z) 10 j) : zOb M W (s, z') 10 j := by
  obtain ⟨h1, h2, h3, h4⟩ := h
  exact ⟨h1, h2, h3, h4⟩
theorem zOb.n8 {j : Nat} (h : zOb M W B 8 j) (hz : ∀ y, y < 8 → zfg (B'.2 10) j y = zfg (B.2 10) j y) : zOb M W B' 8 j := by
  obtain ⟨h1, h2, h3⟩ := h
  exact ⟨h1, h2, fun y hy => (h3 y hy).trans (by rw [hz y hy])⟩
theorem zOb.n9 {j : Nat} (h : zOb M W B 9 j) (e10 : B'.2 10 j = B.2 10 j) (e11 : B'.2 11 j = B.2 11 j) (e12 : B'.2 12 j = B.2 12 j) : zOb M W B' 9 j := by
  obtain ⟨h1, h2, h3, h4, h5, h6⟩ := h
  exact ⟨h1, h2, h3, h4.trans e10.symm, h5.trans e11.symm, h6.trans e12.symm⟩
theorem zC.nrm (hC : zC M W B) (h1 : B'.1 = B.1) (hk : ∀ i, i ≠ 10 → i ≠ 12 → B'.2 i = B.2 i) (h10 : ∀ j, B.2 3 (j / 8) = 1 → B'.2 10 j = B.2 10 j) (h12 : ∀ j, j < 96 → B.2 3 (j / 8) = 1 → ¬ B.2 10 j = 0 → B'.2 12 j = B.2 12 j) : zC M W B' := by
  have h3 := hk 3 (by decide) (by decide)
  have hv : ∀ i j, zVal B' i j → zVal B i j := fun i j h => zVal.nrm h3 h10 h
  refine ⟨fun i j h => ?_, fun i j i' j' g1 g2 => hC.2 i j i' j' (hv i j g1) (hv i' j' g2)⟩
  have hB := hv i j h
  have ho := hC.1 i j hB
  by_cases hi : i < 8
  · exact zOb.cg (fun _ _ _ => rfl) (fun k k1 k2 k3 => hk k k1 k3) hi hB ho
  · have hi11 := hB.lt
    have : i = 8 ∨ i = 9 ∨ i = 10 := by omega
    rcases this with rfl | rfl | rfl
    · exact zOb.n8 ho (fun y hy => zfg_cg (fun x hx => h10 _ (by rw [show (8 * j + x) / 8 = j by omega]; exact hB.2)))
    · exact zOb.n9 ho (h10 j hB.2.1) (by rw [hk 11 (by decide) (by decide)]) (h12 j hB.1 hB.2.1 hB.2.2)
    · obtain ⟨s, z⟩ := B
      obtain ⟨s', z'⟩ := B'
      have e : s' = s := h1
      subst e
      exact zOb.n10 ho
theorem zCW.nrm {v : Option Value} {o : ZO} {M' : ZM} {B0 : ZA} (h : zCW W M B0 v B o M') (h1 : B'.1 = B.1) (hk : ∀ i, i ≠ 10 → i ≠ 12 → B'.2 i = B.2 i) (h10 : ∀ j, B.2 3 (j / 8) = 1 → B'.2 10 j = B.2 10 j) (h12 : ∀ j, j < 96 → B.2 3 (j / 8) = 1 → ¬ B.2 10 j = 0 → B'.2 12 j = B.2 12 j) : zCW W M B0 v B' o M' := by
  obtain ⟨g0, W', g1, g2, g3, g4⟩ := h
  exact ⟨g0, W', g1.nrm h1 hk h10 h12, g2, g3, fun i j hv => g4 i j (zVal.nrm (hk 3 (by decide) (by decide)) h10 hv)⟩
/-! the invariant -/
def zCf (A : ZA) : Prop := ∀ d, d < 12 → A.2 3 d = 1 → ∃ c, zHc (A.2 10) d c
def zSn (A : ZA) (F : Nat) : Prop := ∀ d n, d < 12 → n < 50 → A.2 6 (50 * d + n) = -1 ∨ (A.2 3 d = 1 ∧ ((∃ f, f < F ∧ A.2 6 (50 * d + n) = nI f) ∨ ∃ e, e < 12 ∧ ¬ e = 0 ∧ A.2 3 e = 1 ∧ A.2 6 (50 * d + n) = -2 - nI e ∧ zpar A e = d ∧ znam A e = n))
def zCv (A : ZA) : Prop := ∀ e, e < 12 → ¬ e = 0 → A.2 3 e = 1 → A.2 6 (50 * zpar A e + znam A e) = -2 - nI e
def zMm (A : ZA) : Prop := A.1 16 = -1 ∨ ∃ m, m < 96 ∧ A.1 16 = nI m ∧ A.2 3 (m / 8) = 1 ∧ ¬ A.2 10 m = 0 ∧ ¬ A.1 17 = -1
def zJ (A : ZA) (t D F T L : Nat) : Prop := (A.1 1 = nI T ∧ T ≤ 100 * t) ∧ (A.1 8 = nI L ∧ L ≤ t) ∧ (A.1 9 = nI F ∧ F ≤ 30) ∧ zBas A D ∧ zFr A ∧ (∀ d, d < 12 → A.2 3 d = 1 → zDp A 11 d) ∧ zDz A ∧ zCf A ∧ zSn A F ∧ zCv A ∧ zMm A
def zRS (A B : ZA) (t : Nat) : Prop := ∃ D F T L, zJ A t D F T L ∧ zAg A B ∧ zLs A B ∧ zAe A B L ∧ zUm B D
variable {t D F T L : Nat}
theorem zJ.wf (h : zJ A t D F T L) : zWf A := ⟨⟨D, h.2.2.2.1⟩, h.2.2.2.2.1, h.2.2.2.2.2.1⟩
theorem zJ.n0 (h : zJ A t D F T L) (ht : t ≤ 600) : nI 0 ≤ A.1 1 := by
  have h1 := h.1.2
  rw [h.1.1]
  exact (nI_leI (by decide) (by omega)).mpr (Nat.zero_le _)
theorem zJ.mw (h : zJ A t D F T L) : zMw A := by
  rcases h.2.2.2.2.2.2.2.2.2.2 with g | ⟨m, g1, g2, g3, g4, -⟩
  · exact Or.inl g
  · exact Or.inr ⟨m, g2, g1, g3, g4⟩
theorem zJ.mv (h : zJ A t D F T L) : zMv A := by
  rcases h.2.2.2.2.2.2.2.2.2.2 with g | ⟨m, g1, g2, -⟩
  · exact Or.inl g
  · exact Or.inr ⟨m, g1, g2⟩
theorem zAg.mw (h : zAg A B) (g : zMw A) : zMw B := by
  unfold zMw
  rw [h.1]
  exact g.imp id (fun ⟨m, h1, h2⟩ => ⟨m, h1, h.val.mpr h2⟩)
theorem zDp.cg (h3 : A'.2 3 = A.2 3) (h4 : A'.2 4 = A.2 4) (h5 : A'.2 5 = A.2 5) : ∀ k d, zDp A' k d ↔ zDp A k d
  | 0, _ => Iff.rfl
  | k + 1, d => by
    rw [zDp, zDp, zDp.cg h3 h4 h5 k]
    unfold zUp zpar znam
    rw [h3, h4, h5]
theorem zpar.cg (h4 : A'.2 4 = A.2 4) (d : Nat) : zpar A' d = zpar A d := by unfold zpar; rw [h4]
theorem znam.cg (h5 : A'.2 5 = A.2 5) (d : Nat) : znam A' d = znam A d := by unfold znam; rw [h5]
/-- where nothing of the tree and the fragments changes -/
theorem zJ.cg (h : zJ A t D F T L) {t' T' L' : Nat} (h3 : A'.2 3 = A.2 3) (h4 : A'.2 4 = A.2 4) (h5 : A'.2 5 = A.2 5) (h6 : A'.2 6 = A.2 6) (h10 : A'.2 10 = A.2 10) (h11 : A'.2 11 = A.2 11) (e1 : A'.1 1 = nI T' ∧ T' ≤ 100 * t') (e8 : A'.1 8 = nI L' ∧ L' ≤ t') (e2 : A'.1 2 = A.1 2) (e9 : A'.1 9 = A.1 9) (em : zMm A') : zJ A' t' D F T' L' := by
  obtain ⟨j1, j2, j3, j4, j5, j6, j7, j8, j9, j10, j11⟩ := h
  refine ⟨e1, e8, by rw [e9]; exact j3, by unfold zBas; rw [e2, h3]; exact j4, by unfold zFr; rw [h3, h10, h11]; exact j5, fun d h1 h2 => (zDp.cg h3 h4 h5 11 d).mpr (j6 d h1 (by rw [← h3]; exact h2)), by unfold zDz; rw [h3, h10]; exact j7, by unfold zCf; rw [h3, h10]; exact j8, ?_, ?_, em⟩
  · intro d n h1 h2
    have g := j9 d n h1 h2
    rw [h6, h3]
    rcases g with g | ⟨g0, g | ⟨e, g1, g2, g3, g4, g5, g6⟩⟩
    · exact Or.inl g
    · exact Or.inr ⟨g0, Or.inl g⟩
    · exact Or.inr ⟨g0, Or.inr ⟨e, g1, g2, g3, g4, (zpar.cg h4 e).trans g5, (znam.cg h5 e).trans g6⟩⟩
  · intro e h1 h2 h3'
    rw [h6, zpar.cg h4, znam.cg h5]
    exact j10 e h1 h2 (by rw [← h3]; exact h3')
theorem zMm.cg (h : zMm A) (h16 : A'.1 16 = A.1 16) (h17 : A'.1 17 = A.1 17) (h3 : A'.2 3 = A.2 3) (h10 : A'.2 10 = A.2 10) : zMm A' := by
  unfold zMm
  rw [h16, h17, h3, h10]
  exact h
theorem zJ.mm (h : zJ A t D F T L) : zMm A := h.2.2.2.2.2.2.2.2.2.2
theorem zJ.se (h : zJ A t D F T L) (h1 : A'.1 = A.1) (h3 : A'.2 3 = A.2 3) (h4 : A'.2 4 = A.2 4) (h5 : A'.2 5 = A.2 5) (h6 : A'.2 6 = A.2 6) (h10 : A'.2 10 = A.2 10) (h11 : A'.2 11 = A.2 11) : zJ A' (t + 1) D F T L :=
  h.cg h3 h4 h5 h6 h10 h11 (by rw [h1]; exact ⟨h.1.1, by have := h.1.2; omega⟩) (by rw [h1]; exact ⟨h.2.1.1, by have := h.2.1.2; omega⟩) (by rw [h1]) (by rw [h1]) (h.mm.cg (by rw [h1]) (by rw [h1]) h3 h10)
theorem zRS.nx (h : zRS A B t) : zRS A B (t + 1) := by
  obtain ⟨D, F, T, L, h1, h2⟩ := h
  exact ⟨D, F, T, L, h1.se rfl rfl rfl rfl rfl rfl rfl, h2⟩
/-! what a call does on both sides -/
def zI1 : Int32 → Option Value := fun v => some (.int v)
def zV0 : Int32 → Option Value := fun _ => none
def zOk (y2 y3 : ZY) (As : List Value) (A B : ZA) (t : Nat) (r : Int32 → Option Value) : Prop :=
  ∃ (v : Int32) (A' B' : ZA), zRS A' B' (t + 1) ∧ (∀ (G : ZG) (M : ZM) (W : Nat → Nat → Nat), zC M W B → zMet G y2 (.ref (W 10 0) :: As) M (zCW W M B (r v) B')) ∧ (∀ (G : ZG) (M : ZM) (x : Nat) (q : Nat → Nat) (w : Int32), zR M x q w A → zMet G y3 (.ref x :: As) M (zRP x q M (r v) (nI 0) A'))
def zNo (y2 y3 : ZY) (As : List Value) (A B : ZA) (t : Nat) (r : Int32 → Option Value) (k : Nat) (En : String) : Prop :=
  ∃ (v : Int32) (A' : ZA), zRS A' B (t + 1) ∧ (∀ (G : ZG) (M : ZM) (W : Nat → Nat → Nat), zC M W B → zMet G y2 (.ref (W 10 0) :: As) M (zthr En M)) ∧ (∀ (G : ZG) (M : ZM) (x : Nat) (q : Nat → Nat) (w : Int32), zR M x q w A → zMet G y3 (.ref x :: As) M (zRP x q M (r v) (nI k) A'))
def zSim (y2 y3 : ZY) (As : List Value) (A B : ZA) (t : Nat) (r : Int32 → Option Value) (f : List String) : Prop :=
  zOk y2 y3 As A B t r ∨ ∃ (j : Nat) (En : String), f[j]? = some En ∧ zNo y2 y3 As A B t r (j + 1) En
variable {y2 y3 : ZY} {As : List Value} {r : Int32 → Option Value} {f : List String}
theorem zSim.ok (v : Int32) (A' B' : ZA) (h : zRS A' B' (t + 1)) (h2 : ∀ (G : ZG) (M : ZM) (W : Nat → Nat → Nat), zC M W B → zMet G y2 (.ref (W 10 0) :: As) M (zCW W M B (r v) B')) (h3 : ∀ (G : ZG) (M : ZM) (x : Nat) (q : Nat → Nat) (w : Int32), zR M x q w A → zMet G y3 (.ref x :: As) M (zRP x q M (r v) (nI 0) A')) : zSim y2 y3 As A B t r f := Or.inl ⟨v, A', B', h, h2, h3⟩
/-- .. asked alone -/
theorem zSim.rd (v : Int32) (h : zRS A B t) (h2 : ∀ (G : ZG) (M : ZM) (W : Nat → Nat → Nat), zC M W B → zMet G y2 (.ref (W 10 0) :: As) M (zone (r v) M)) (h3 : ∀ (G : ZG) (M : ZM) (x : Nat) (q : Nat → Nat) (w : Int32), zR M x q w A → zMet G y3 (.ref x :: As) M (zRP x q M (r v) (nI 0) A)) : zSim y2 y3 As A B t r f :=
  zSim.ok v A B h.nx (fun G M W hC => (h2 G M W hC).mono (fun o M' ⟨e1, e2⟩ => by subst e2; exact ⟨e1, W, hC, zFm.rf, rfl, fun i j hv => Or.inl ⟨hv, rfl⟩⟩)) h3
theorem zSim.no (j : Nat) (En : String) (v : Int32) (h : zRS A B t) (hf : f[j]? = some En) (h2 : ∀ (G : ZG) (M : ZM) (W : Nat → Nat → Nat), zC M W B → zMet G y2 (.ref (W 10 0) :: As) M (zthr En M)) (h3 : ∀ (G : ZG) (M : ZM) (x : Nat) (q : Nat → Nat) (w : Int32), zR M x q w A → zMet G y3 (.ref x :: As) M (zRP x q M (r v) (nI (j + 1)) A)) : zSim y2 y3 As A B t r f := Or.inr ⟨j, En, hf, v, A, h.nx, h2, h3⟩
/-- a call that keeps to the old objects -/
theorem zMet.w {G : ZG} {v : Option Value} (h : zMet G y2 As M (zCP W M B v B')) (hs : ∀ i j, zVal B' i j → zVal B i j) : zMet G y2 As M (zCW W M B v B') := h.mono (fun _ _ g => g.w hs)
theorem zCW.to {v : Option Value} {o : ZO} {M' : ZM} (h : zCW W M B v B' o M') {v' : Option Value} {B'' : ZA} (e : v = v') (e2 : B' = B'') : zCW W M B v' B'' o M' := by subst e; subst e2; exact h
end ZSD
