/-! the law: both objects in one memory -/
section ZLA
variable {M M' : ZM} {W : Nat → Nat → Nat} {A B A' B' : ZA} {x : Nat} {q : Nat → Nat} {w : Int32} {t : Nat}
theorem zC.same (hC : zC M W B) (h : ∀ i j, zVal B i j → zsame M M' (W i j)) : zC M' W B := ⟨fun i j hv => zOb.same hv (h i j hv) (hC.1 i j hv), hC.2⟩
theorem zR.same (hR : zR M x q w A) (hx : zsame M M' x) (hq : ∀ k, zar k = true → zsame M M' (q k)) : zR M' x q w A := by
  refine ⟨hx.1.trans hR.1, fun k hk => ?_, ⟨(hx.2.2.1 0).trans hR.2.2.1.1, fun k hk h0 => (hx.2.2.1 k).trans (hR.2.2.1.2 k hk h0)⟩, hR.2.2.2⟩
  obtain ⟨h1, h2, h3, h4⟩ := hR.2.1 k hk
  obtain ⟨s1, s2, s3, -, -⟩ := hq k hk
  exact ⟨(hx.2.2.2.1 k).trans h1, s1.trans h2, s2.trans h3, fun j => (s3 j).trans (h4 j)⟩
theorem zC.kd (hC : zC M W B) : ∀ {i j : Nat}, zVal B i j → ¬ zk M (W i j) = 0 ∧ ¬ zk M (W i j) = 4 ∧ ¬ zk M (W i j) = 7
  | 0, j, hv => by rw [(hC.1 0 j hv).1]; decide
  | 1, j, hv => by rw [(hC.1 1 j hv).1]; decide
  | 2, j, hv => by rw [(hC.1 2 j hv).1]; decide
  | 3, j, hv => by rw [(hC.1 3 j hv).1]; decide
  | 4, j, hv => by rw [(hC.1 4 j hv).1]; decide
  | 5, j, hv => by rw [(hC.1 5 j hv).1]; decide
  | 6, j, hv => by rw [(hC.1 6 j hv).1]; decide
  | 7, j, hv => by rw [(hC.1 7 j hv).1]; decide
  | 8, j, hv => by rw [(hC.1 8 j hv).1]; decide
  | 9, j, hv => by rw [(hC.1 9 j hv).1]; decide
  | 10, j, hv => by have := hv.2; subst this; rw [hC.x.1]; decide
  | i + 11, _, hv => absurd hv.lt (by omega)
theorem zR.kd (hR : zR M x q w A) {k : Nat} (hk : zar k = true) : ¬ zk M (q k) = 0 ∧ ¬ zk M (q k) = 7 := by
  rw [(hR.2.1 k hk).2.1]
  split <;> decide
/-- the two objects and the law's row lie apart -/
def zSep (M : ZM) (W : Nat → Nat → Nat) (B : ZA) (x : Nat) (q : Nat → Nat) (w : Int32) (A : ZA) (c out : Nat) : Prop := zC M W B ∧ zR M x q w A ∧ W 10 0 = c ∧ (∀ i j k, zVal B i j → zar k = true → W i j ≠ q k) ∧ zk M out = 7 ∧ zn M out = 1
variable {c out : Nat}
theorem zSep.call {v : Option Value} {o : ZO} (h : zSep M W B x q w A c out) (g : zCW W M B v B' o M') : o = .inl v ∧ ∃ W', zSep M' W' B' x q w A c out := by
  obtain ⟨hC, hR, hc, hs, h7, h1⟩ := h
  obtain ⟨e, W', g1, g2, g3, g4⟩ := g
  have f : ∀ a, ¬ zk M a = 0 → (∀ i j, zVal B i j → a ≠ W i j) → zsame M M' a := g2
  have fx : zsame M M' x := f x (by rw [hR.1]; decide) (fun i j hv e => (hC.kd hv).2.1 (by rw [← e]; exact hR.1))
  have fq : ∀ k, zar k = true → zsame M M' (q k) := fun k hk => f _ (hR.kd hk).1 (fun i j hv e => hs i j k hv hk e.symm)
  have fo : zsame M M' out := f out (by rw [h7]; decide) (fun i j hv e => (hC.kd hv).2.2 (by rw [← e]; exact h7))
  refine ⟨e, W', g1, hR.same fx fq, g3.trans hc, fun i j k hv hk e => ?_, fo.1.trans h7, fo.2.1.trans h1⟩
  rcases g4 i j hv with ⟨k1, k2⟩ | k1
  · exact hs i j k k1 hk (by rw [← k2]; exact e)
  · rw [e] at k1
    exact (hR.kd hk).1 k1
theorem zSep.wr {v : Int64} (h : zSep M W B x q w A c out) : zSep (zsj M out 0 v) W B x q w A c out := by
  obtain ⟨hC, hR, hc, hs, h7, h1⟩ := h
  exact ⟨hC.same (fun i j hv => zsame.j (fun e => (hC.kd hv).2.2 (by rw [e]; exact h7))), hR.same (zsame.j (fun e => by have := hR.1; rw [e, h7] at this; exact absurd this (by decide))) (fun k hk => zsame.j (fun e => (hR.kd hk).2 (by rw [e]; exact h7))), hc, hs, h7, h1⟩
theorem zSep.ref {w' : Int32} (h : zSep M W B x q w A c out) (hR' : zR M' x q w' A') (hS : zSm x q M M') : zSep M' W B x q w' A' c out ∧ zj M' out 0 = zj M out 0 := by
  obtain ⟨hC, hR, hc, hs, h7, h1⟩ := h
  have fo : zsame M M' out := hS out (fun e => by have := hR.1; rw [← e, h7] at this; exact absurd this (by decide)) (fun k hk e => (hR.kd hk).2 (by rw [← e]; exact h7))
  exact ⟨⟨hC.same (fun i j hv => hS _ (fun e => (hC.kd hv).2.1 (by rw [e]; exact hR.1)) (fun k hk => hs i j k hv hk)), hR', hc, hs, fo.1.trans h7, fo.2.1.trans h1⟩, fo.2.2.2.2 0⟩
/-- the law's state before the call t -/
def zLS (M : ZM) (c x out : Nat) (t : Nat) : Prop := ∃ W B q w A, zSep M W B x q w A c out ∧ zRS A B t
/-- what a call of the law's own methods has done: k its answer, the reference's call to come -/
def zLP (c x out : Nat) (y3 : ZY) (As : List Value) (t : Nat) (r : Int32 → Option Value) (pr : Int32 → ZM → Prop) : ZO → ZM → Prop := fun o M' => ∃ (k : Nat) (v : Int32) (W : Nat → Nat → Nat) (B : ZA) (q : Nat → Nat) (w : Int32) (A A' : ZA), o = .inl (some (.int (nI k))) ∧ k < 4 ∧ zSep M' W B x q w A c out ∧ zRS A' B (t + 1) ∧ (∀ (G : ZG) (M : ZM) (x : Nat) (q : Nat → Nat) (w : Int32), zR M x q w A → zMet G y3 (.ref x :: As) M (zRP x q M (r v) (nI k) A')) ∧ (k = 0 → pr v M')
def zpI (out : Nat) : Int32 → ZM → Prop := fun v M => zj M out 0 = v.toInt64
def zpZ (out : Nat) : Int32 → ZM → Prop := fun v M => zj M out 0 = if v = 0 then 0 else 1
def zpV : Int32 → ZM → Prop := fun _ _ => True
theorem zLP_r {E : ZE} {G : ZG} {u : Nat} {Q : State → Prop} {pc : Nat} {L : List (Option Value)} {S : List Value} {y3 : ZY} {As : List Value} {r : Int32 → Option Value} {pr : Int32 → ZM → Prop} {n : Nat} (kk : ∀ M' (k : Nat) (v : Int32) (W : Nat → Nat → Nat) (B : ZA) (q : Nat → Nat) (w : Int32) (A A' : ZA), k < 4 → zSep M' W B x q w A c out → zRS A' B (t + 1) → (∀ (G : ZG) (M : ZM) (x : Nat) (q : Nat → Nat) (w : Int32), zR M x q w A → zMet G y3 (.ref x :: As) M (zRP x q M (r v) (nI k) A')) → (k = 0 → pr v M') → WW E G u Q M' n (pc + 3) L (.int (nI k) :: S)) : ∀ (v' : Option Value) (M' : ZM), zLP c x out y3 As t r pr (.inl v') M' → WW E G u Q M' n (pc + 3) L (v'.toList ++ S) := by
  rintro v' M' ⟨k, v, W, B, q, w, A, A', e, h⟩
  cases e
  exact kk M' k v W B q w A A' h.1 h.2.1 h.2.2.1 h.2.2.2.1 h.2.2.2.2
theorem zLP_x {E : ZE} {G : ZG} {u : Nat} {Q : State → Prop} {pc : Nat} {L : List (Option Value)} {y3 : ZY} {As : List Value} {r : Int32 → Option Value} {pr : Int32 → ZM → Prop} {n : Nat} : ∀ (En : String) (M' : ZM), zLP c x out y3 As t r pr (.inr En) M' → XX E G u Q M' n pc L En := by
  rintro En M' ⟨k, v, W, B, q, w, A, A', e, h⟩
  cases e
/-- the class's call has come back -/
theorem zCW_r {E : ZE} {G : ZG} {u : Nat} {Q : State → Prop} {pc : Nat} {L : List (Option Value)} {S : List Value} {v : Option Value} {n : Nat} (h : zSep M W B x q w A c out) (kk : ∀ M' W', zSep M' W' B' x q w A c out → WW E G u Q M' n (pc + 3) L (v.toList ++ S)) : ∀ (v' : Option Value) (M' : ZM), zCW W M B v B' (.inl v') M' → WW E G u Q M' n (pc + 3) L (v'.toList ++ S) := by
  intro v' M' g
  obtain ⟨e, W', h'⟩ := h.call g
  cases e
  exact kk M' W' h'
theorem zCW_x {E : ZE} {G : ZG} {u : Nat} {Q : State → Prop} {pc : Nat} {L : List (Option Value)} {v : Option Value} {n : Nat} : ∀ (En : String) (M' : ZM), zCW W M B v B' (.inr En) M' → XX E G u Q M' n pc L En := by
  rintro En M' ⟨e, -⟩
  cases e
/-! how both begin -/
theorem zA0_1 (k : Nat) : zA0.1 k = if k = 16 then -1 else if k = 2 then 1 else 0 := by
  unfold zA0
  rw [zBg_1, zNs_1]
  rfl
theorem zA0_n {i : Nat} (h3 : i ≠ 3) (h6 : i ≠ 6) (h10 : i ≠ 10) (h11 : i ≠ 11) (h12 : i ≠ 12) (j : Nat) : zA0.2 i j = 0 := by
  unfold zA0
  rw [zBg_n _ _ _ h3 h10 h11 h12, zNs_n h6]
theorem zA0_6 (j : Nat) : zA0.2 6 j = if j < 600 then -1 else 0 := by
  unfold zA0
  rw [zBg_n _ _ _ (by decide) (by decide) (by decide) (by decide), zNs_6]
theorem zA0_3 (j : Nat) : zA0.2 3 j = if j = 0 then nI 1 else 0 := by
  unfold zA0
  rw [zBg_3, zNs_n (by decide)]
theorem zA0_10 (j : Nat) : zA0.2 10 j = if 8 * 0 ≤ j ∧ j < 8 * 0 + 8 then (if j = 8 * 0 then nI 8 else nI 0) else 0 := by
  unfold zA0
  rw [zBg_10, zNs_n (by decide)]
theorem zA0_11 (j : Nat) : zA0.2 11 j = if 8 * 0 ≤ j ∧ j < 8 * 0 + 8 then (if j = 8 * 0 then nI 0 else -1) else 0 := by
  unfold zA0
  rw [zBg_11, zNs_n (by decide)]
theorem zA0_12 (j : Nat) : zA0.2 12 j = if 8 * 0 ≤ j ∧ j < 8 * 0 + 8 then nI 0 else 0 := by
  unfold zA0
  rw [zBg_12, zNs_n (by decide)]
theorem zB0_2 (i : Nat) : zB0.2 i = (zNd zBz0 0 0 (nI 0) (nI 0)).2 i := by
  unfold zB0
  rw [zsc_2]
theorem zAB0 : zAg zA0 zB0 := by
  refine zAg.of (funext fun k => ?_) (fun i h7 h13 j => ?_)
  · rw [zA0_1]
    unfold zB0
    rw [zsc_1, zNd_1, zBz0_1]
    by_cases e : k = 2
    · subst e
      rfl
    · rw [if_neg e, if_neg e, if_neg e]
  · rw [zB0_2]
    by_cases e3 : i = 3
    · rw [e3, zNd_3, zA0_3, zBz0_n (by decide)]
    · by_cases e4 : i = 4
      · rw [e4, zNd_4, zBz0_n (by decide), zA0_n (by decide) (by decide) (by decide) (by decide) (by decide)]
        split <;> rfl
      · by_cases e5 : i = 5
        · rw [e5, zNd_5, zBz0_n (by decide), zA0_n (by decide) (by decide) (by decide) (by decide) (by decide)]
          split <;> rfl
        · by_cases e10 : i = 10
          · rw [e10, zNd_10, zA0_10, zBz0_n (by decide)]
          · by_cases e11 : i = 11
            · rw [e11, zNd_11, zA0_11, zBz0_n (by decide)]
            · by_cases e12 : i = 12
              · rw [e12, zNd_12, zA0_12, zBz0_n (by decide)]
              · rw [zNd_n _ _ _ _ _ e3 e4 e5 e10 e11 e12]
                by_cases e6 : i = 6
                · rw [e6, zBz0_6 rfl, zA0_6]
                · rw [zBz0_n e6, zA0_n e3 e6 e10 e11 e12]
theorem zRS0 : zRS zA0 zB0 0 := by
  have hal : ∀ d, zA0.2 3 d = 1 → d = 0 := fun d g => by
    rw [zA0_3] at g
    by_cases z : d = 0
    · exact z
    · rw [if_neg z] at g
      exact absurd g (by decide)
  have h6 : ∀ k, k < 600 → zA0.2 6 k = -1 := fun k hk => by rw [zA0_6, if_pos hk]
  have hb : ∀ i j, i ≠ 3 → i ≠ 4 → i ≠ 5 → i ≠ 6 → i ≠ 10 → i ≠ 11 → i ≠ 12 → zB0.2 i j = 0 := fun i j h3 h4 h5 h6 h10 h11 h12 => by
    rw [zB0_2, zNd_n _ _ _ _ _ h3 h4 h5 h10 h11 h12, zBz0_n h6]
  refine ⟨1, 0, 0, 0, ⟨⟨by rw [zA0_1]; rfl, by omega⟩, ⟨by rw [zA0_1]; rfl, by omega⟩, ⟨by rw [zA0_1]; rfl, by omega⟩, ⟨by rw [zA0_1]; rfl, by omega, by omega, fun j hj => ?_⟩, ⟨fun d h1 h2 => ?_, fun y h1 h2 => ?_⟩, fun d h1 h2 => Or.inl (hal d h2), fun f h1 h2 => ?_, fun d h1 h2 => ?_, fun d n h1 h2 => Or.inl (h6 _ (by omega)), fun e h1 h2 h3 => absurd (hal e h3) h2, Or.inl (by rw [zA0_1]; rfl)⟩, zAB0, fun c d n h1 h2 h3 => ?_, fun k f h1 h2 h3 => ?_, fun e h1 h2 k hk => ?_⟩
  · rw [zA0_3]
    by_cases z : j = 0
    · rw [if_pos z]
      exact Or.inl ⟨rfl, by omega⟩
    · rw [if_neg z]
      exact Or.inr rfl
  · rw [hal d h2, zA0_10]
    decide
  · rw [zA0_10, if_pos (by omega)] at h2
    rw [zA0_11, if_pos (by omega)]
    by_cases z : y = 8 * 0
    · rw [if_pos z]
      decide
    · rw [if_neg z] at h2
      exact absurd rfl h2
  · rw [zA0_10] at h2
    by_cases z : 8 * 0 ≤ f ∧ f < 8 * 0 + 8
    · rw [zA0_3, if_pos (by omega)]
      rfl
    · rw [if_neg z] at h2
      exact absurd rfl h2
  · rw [hal d h2]
    refine ⟨_, zNw_cf, fun y hy => ?_⟩
    rw [zA0_10, if_pos (by omega), zNw_g y hy]
    by_cases q : y = 0
    · rw [if_pos (by omega), if_pos q]
    · rw [if_neg (by omega), if_neg q]
  · rw [zA0_n (i := 13) (by decide) (by decide) (by decide) (by decide) (by decide), hb 13 _ (by decide) (by decide) (by decide) (by decide) (by decide) (by decide) (by decide), zA0_1]
    exact ⟨fun _ => Or.inl rfl, fun _ => Int32.le_refl 0⟩
  · rw [h6 k h1] at h3
    exact absurd h3.symm (zfv2 h2)
  · refine ⟨?_, hb 7 _ (by decide) (by decide) (by decide) (by decide) (by decide) (by decide) (by decide), fun c hc => hb 13 _ (by decide) (by decide) (by decide) (by decide) (by decide) (by decide) (by decide)⟩
    rw [zB0_2, zNd_n _ _ _ _ _ (by decide) (by decide) (by decide) (by decide) (by decide) (by decide), zBz0_6 rfl, if_pos (by omega)]
end ZLA
