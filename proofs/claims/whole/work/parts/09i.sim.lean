/-! calls on both sides: merge, balance -/
section ZSI
variable {A B A' B' : ZA} {t D F T L : Nat}
theorem zRS.mg (hJ : zJ A t D F T L) (hA : zAg A B) (hl : zLs A B) (he : zAe A B L) (hu : zUm B D) {f s : Nat} (hJ' : zJ (zMg A f s) (t + 1) D F T L) : zRS (zMg A f s) (zMg B f s) (t + 1) := ⟨D, F, T, L, hJ', hA.mg f s, hl.cg rfl (zMg_n A _ _ (by decide) (by decide)) (zMg_n A _ _ (by decide) (by decide)) (zMg_n B _ _ (by decide) (by decide)), he.cg (zMg_n A _ _ (by decide) (by decide)) (zMg_n A _ _ (by decide) (by decide)) (zMg_n B _ _ (by decide) (by decide)), hu.cg (zMg_n B _ _ (by decide) (by decide)) (zMg_n B _ _ (by decide) (by decide)) (zMg_n B _ _ (by decide) (by decide))⟩
theorem zMg_val {d f s : Nat} (hs : 1 ≤ s ∧ s ≤ 4) (hf : ¬ B.2 10 f = 0) : ∀ i j, zVal (zMg B f s) i j → zVal B i j := by
  intro i j h
  have e3 := zMg_n B f s (i := 3) (by decide) (by decide)
  by_cases hi : i = 9
  · subst hi
    refine ⟨h.1, by rw [← e3]; exact h.2.1, fun e => h.2.2 ?_⟩
    rw [zMg_10]
    split
    · rfl
    · split
      · rename_i q
        rw [q] at e
        exact absurd e hf
      · exact e
  · match i, hi, h with
    | 0, _, h => exact h
    | 1, _, h => exact h
    | 2, _, h => exact h
    | 3, _, h => exact ⟨h.1, by rw [← e3]; exact h.2⟩
    | 4, _, h => exact ⟨h.1, by rw [← e3]; exact h.2⟩
    | 5, _, h => exact ⟨h.1, by rw [← e3]; exact h.2⟩
    | 6, _, h => exact ⟨h.1, by rw [← e3]; exact h.2⟩
    | 7, _, h => exact ⟨h.1, by rw [← e3]; exact h.2⟩
    | 8, _, h => exact ⟨h.1, by rw [← e3]; exact h.2⟩
    | 9, hi, _ => exact absurd rfl hi
    | 10, _, h => exact h
    | i + 11, _, h => exact absurd h.lt (by omega)
theorem sm_merge (h : zRS A B t) (d n : Int32) : zSim mX2_merge mX3_merge [.int d, .int n] A B t zI1 [zIAE, zIOB, zISE] := by
  obtain ⟨D, F, T, L, hJ, hA, hl, he, hu⟩ := id h
  rcases zBh_or A 7 d n with ⟨k, hk⟩ | ⟨d, y, rfl, hd, hv, rfl, hy⟩
  · exact zSim.kn (zBh_c hk) h ⟨rfl, rfl⟩ (nI 0) (fun G M W hC => ct_X2_merge_bad hC (hA.bh hk)) (fun G M x q w hR => ct_X3_merge_bad hR hJ.wf hk)
  · obtain ⟨c, hc⟩ := hJ.cf d hd hv
    have hy8 : y < 8 := by omega
    have hvB := hA.val.mpr (show zVal A 3 d from ⟨hd, hv⟩)
    have f1 := zcf_s c hc.1 y hy8
    have f2 := zcf_m1 c hc.1 y hy8
    have f3 := zcf_m2 c hc.1 y hy8
    have f4 := zcf_m3 c hc.1 y hy8
    have f5 := zcf_m5 c hc.1 y hy8
    have f6 := zcf_m6 c hc.1 y hy8
    have f7 := zcf_m4 c hc.1 y hy8
    have hgN := hc.g hy8
    obtain ⟨g, hg⟩ : ∃ g, zgN c y = g := ⟨_, rfl⟩
    rw [hg] at f1 f2 f3 f4 f5 f6 f7 hgN
    obtain ⟨s, hs⟩ : ∃ s, c.getD g 0 = s := ⟨_, rfl⟩
    rw [hs] at f1 f2 f3 f4 f5 f6 f7
    have s1 := f1.1
    have s2 := f1.2.1
    have es : A.2 10 (8 * d + g) = nI s := by rw [hc.2 g (by omega), hs]
    have eB := hA.k 10 (by decide)
    by_cases h8 : s = 8
    · refine zSim.no 2 zISE (nI 0) h rfl (fun G M W hC => ?_) (fun G M x q w hR => ?_)
      · exact ct_X2_merge_8 (x := 0) hC (hA.wf hJ.wf) hvB hy (hA.mw hJ.mw) (s := s) (by rw [eB, hgN]; exact es) h8
      · exact ct_X3_merge_8 hR hJ.wf hd hv hy (s := s) (by rw [hgN]; exact es) s1 (by omega) (by rw [hgN]; exact f2) h8
    · have hs8 : s < 8 := by omega
      obtain ⟨x, hx⟩ : ∃ x, g ^^^ s = x := ⟨_, rfl⟩
      obtain ⟨b, hb⟩ : ∃ b, zb1 g s = b := ⟨_, rfl⟩
      have f3 := f3 hs8
      have f4 := f4 hs8
      have f5 := f5 hs8
      have f6 := f6 hs8
      have f7 := f7 hs8
      have hxx := zxor g (by omega) s hs8
      rw [hx] at f3 f4 f5 f6 f7 hxx
      rw [hb] at f3 f4 f5 f6 f7
      obtain ⟨k1, k2, k3⟩ := f3
      have hxN := hc.g k2
      obtain ⟨p, hp⟩ : ∃ p, zgN c x = p := ⟨_, rfl⟩
      rw [hp] at k3 f4 f5 f6 f7 hxN
      have hple : p < 8 := by have := zgN_le c x; omega
      have ep : A.2 10 (8 * d + p) = nI (c.getD p 0) := hc.2 p hple
      have hpa := (zcf_a c hc.1).1 p hple
      have epi : A.2 10 (8 * d + p) = nI s ↔ c.getD p 0 = s := by rw [ep]; exact nI_eq (by omega) (by omega)
      have eb : A.2 10 (8 * d + b) = nI s ↔ c.getD b 0 = s := by
        rw [hc.2 b (by omega)]
        have := (zcf_a c hc.1).1 b (by omega)
        exact nI_eq (by omega) (by omega)
      have ebs : A.2 10 (8 * d + b + s) = nI s ↔ c.getD (b + s) 0 = s := by
        rw [Nat.add_assoc, hc.2 (b + s) (by omega)]
        have := (zcf_a c hc.1).1 (b + s) (by omega)
        exact nI_eq (by omega) (by omega)
      have hno : ¬ (A.2 10 (8 * d + p) = nI s ∧ A.2 11 (8 * d + p) = A.2 11 (8 * d + g) ∧ ¬ zfz A (8 * d + g) = true ∧ ¬ zfz A (8 * d + p) = true) → ∀ (G : ZG) (M : ZM) (W : Nat → Nat → Nat), zC M W B → zMet G mX2_merge [.ref (W 10 0), .int (nI d), .int (nI y)] M (zthr zISE M) := fun hn G M W hC =>
        ct_X2_merge_no hC (hA.wf hJ.wf) hvB hy (hA.mw hJ.mw) (s := s) (x := x) (by rw [eB, hgN]; exact es) hs8 (by rw [eB, hgN]; exact hxx) k2 (by rw [eB, hA.k 11 (by decide), hgN, hxN, hA.fz, hA.fz]; exact hn)
      by_cases hR1 : c.getD p 0 = s
      · have hbb := k3.mpr hR1
        have hmem := f4 hR1
        have heq : (b = g ∧ p = g + s) ∨ (b = p ∧ g = p + s) := by
          by_cases z : g % (2 * s) = 0
          · exact Or.inl (f5 hR1 z)
          · exact Or.inr (f6 hR1 z)
        have hsame : ∀ (α : Type) (w : Nat → α) (R : α → α → Prop), (∀ u v, R u v → R v u) → (R (w (8 * d + p)) (w (8 * d + g)) ↔ R (w (8 * d + b)) (w (8 * d + b + s))) := by
          intro α w R sy
          rcases heq with ⟨q1, q2⟩ | ⟨q1, q2⟩
          · subst q1; subst q2
            rw [← Nat.add_assoc]
            exact ⟨sy _ _, sy _ _⟩
          · subst q1; subst q2
            rw [← Nat.add_assoc]
        by_cases hok : A.2 11 (8 * d + b) = A.2 11 (8 * d + b + s) ∧ ¬ zfz A (8 * d + b) = true ∧ ¬ zfz A (8 * d + b + s) = true
        · obtain ⟨o1, o2, o3⟩ := hok
          have hcb : zHc (A.2 10) d c := hc
          have hJ' := hJ.mg (g := b) hd hv hc (eb.mpr hbb.1) s1 (by omega) o3 hmem
          have hA' := hA.mg (8 * d + b) s
          have hc' := hc.mg (A := A) (g := b) (s := s) (by omega) (by omega) hmem
          have hz' := zRS.mg hJ hA hl he hu hJ'
          have hT : ∀ z, z < 8 → zfg ((zMg B (8 * d + b) s).2 10) d z = if b ≤ z ∧ z < b + (s + s) then b else zfg (A.2 10) d z := fun z hz => by
            rw [hA'.k 10 (by decide), hc'.g hz, f7 hR1 z hz, hc.g hz]
          have hvv : ∀ i j, zVal (zMg B (8 * d + b) s) i j → zVal B i j := zMg_val (d := d) ⟨s1, by omega⟩ (by rw [eB, eb.mpr hbb.1]; exact nI_ne0 (by omega) (by omega))
          refine zSim.ok (nI (zcN (zps (zMg A (8 * d + b) s) d) 8)) _ _ hz' (fun G M W hC => ?_) (fun G M x' q w hR => ?_)
          · rw [zcount hJ' hA' hd]
            rcases heq with ⟨q1, q2⟩ | ⟨q1, q2⟩
            · subst q1
              have := ct_X2_merge_okA (G := G) hC (hA.wf hJ.wf) hvB hy (hA.mw hJ.mw) (s := s) (x := x) (by rw [eB, hgN]; exact es) hs8 (by rw [eB, hgN]; exact hxx) k2 (by rw [eB, hxN]; exact epi.mpr hR1) (by rw [eB, hgN, hxN, hA.k 11 (by decide), q2, ← Nat.add_assoc]; exact o1.symm) (by rw [eB, hgN, hA.fz]; exact o2) (by rw [eB, hxN, hA.fz, q2, ← Nat.add_assoc]; exact o3) s1 (by rw [eB, hgN, hxN]; exact q2) (by rw [eB, hgN]; omega) (fun z hz => by rw [eB, hgN]; exact hT z hz) (by rw [eB, hgN]; exact hA'.fr hJ'.fr)
              rw [eB, hgN] at this
              exact zMet.w this hvv
            · subst q1
              have := ct_X2_merge_okB (G := G) hC (hA.wf hJ.wf) hvB hy (hA.mw hJ.mw) (s := s) (x := x) (by rw [eB, hgN]; exact es) hs8 (by rw [eB, hgN]; exact hxx) k2 (by rw [eB, hxN]; exact epi.mpr hR1) (by rw [eB, hgN, hxN, hA.k 11 (by decide), q2, ← Nat.add_assoc]; exact o1) (by rw [eB, hgN, hA.fz, q2, ← Nat.add_assoc]; exact o3) (by rw [eB, hxN, hA.fz]; exact o2) s1 (by rw [eB, hgN, hxN]; exact q2) (by rw [eB, hxN]; omega) (fun z hz => by rw [eB, hxN]; exact hT z hz) (by rw [eB, hxN]; exact hA'.fr hJ'.fr)
              rw [eB, hxN] at this
              exact zMet.w this hvv
          · have := ct_X3_merge_ok (G := G) hR hJ.wf hd hv hy (s := s) (by rw [hgN]; exact es) s1 (by omega) (by rw [hgN]; exact f2) hs8 (by rw [hgN, hb]; exact k1) (by rw [hgN, hb]; exact eb.mpr hbb.1) (by rw [hgN, hb]; exact ebs.mpr hbb.2) (by rw [hgN, hb]; exact o1) (by rw [hgN, hb]; exact o2) (by rw [hgN, hb]; exact o3)
            rw [hgN, hb] at this
            exact this
        · refine zSim.no 2 zISE (nI 0) h rfl (hno (fun z => hok ?_)) (fun G M x' q w hR => ?_)
          · refine ⟨(hsame Int32 (A.2 11) (fun u v => u = v) (fun _ _ e => e.symm)).mp z.2.1, ?_⟩
            have := (hsame Bool (zfz A) (fun u v => ¬ u = true ∧ ¬ v = true) (fun _ _ e => ⟨e.2, e.1⟩)).mp ⟨z.2.2.2, z.2.2.1⟩
            exact this
          · refine ct_X3_merge_no (G := G) hR hJ.wf hd hv hy (s := s) (by rw [hgN]; exact es) s1 (by omega) (by rw [hgN]; exact f2) hs8 (by rw [hgN, hb]; exact k1) (by rw [hgN, hb]; exact eb.mpr hbb.1) (by rw [hgN, hb]; exact ebs.mpr hbb.2) ?_
            rw [hgN, hb]
            by_cases o1 : A.2 11 (8 * d + b) = A.2 11 (8 * d + b + s)
            · by_cases o2 : zfz A (8 * d + b) = true
              · exact Or.inr (Or.inl o2)
              · by_cases o3 : zfz A (8 * d + b + s) = true
                · exact Or.inr (Or.inr o3)
                · exact absurd ⟨o1, o2, o3⟩ hok
            · exact Or.inl o1
      · refine zSim.no 2 zISE (nI 0) h rfl (hno (fun z => hR1 (epi.mp z.1))) (fun G M x' q w hR => ?_)
        exact ct_X3_merge_half (G := G) hR hJ.wf hd hv hy (s := s) (by rw [hgN]; exact es) s1 (by omega) (by rw [hgN]; exact f2) hs8 (by rw [hgN, hb]; exact k1) (by rw [hgN, hb]; exact fun z => hR1 (k3.mp ⟨eb.mp z.1, ebs.mp z.2⟩))
/-! balance -/
theorem zi_1 {v : Int32} : ¬ v ≤ nI 0 ↔ ¬ v < 1 := by
  rw [Int32.le_iff_toInt_le, Int32.lt_iff_toInt_lt, show (nI 0).toInt = 0 from rfl, show (1 : Int32).toInt = 1 from rfl]
  omega
theorem zBst_ge {a m : Int32} : ∀ {k j : Nat}, zBst A a m k = some j → ¬ A.2 12 j < 1
  | 0, _, h => nomatch h
  | k + 1, j, h => by
    unfold zBst at h
    split at h
    · rename_i h1
      split at h
      · cases h; exact h1.2.2.1
      · rename_i i hi
        split at h
        · cases h; exact zBst_ge hi
        · cases h; exact h1.2.2.1
    · exact zBst_ge h
theorem zbst1 (h : zJ A t D F T L) (hA : zAg A B) (a m : Int32) : ∀ k, k ≤ 96 → zhv B a (m / nI 2) k = zBst A a m k
  | 0, _ => rfl
  | k + 1, hk => by
    have ih := zbst1 h hA a m k (by omega)
    have hv := zVf_i h hA (k := k) (by omega)
    rw [zhv, zBst, ih, hA.sv, hA.k 12 (by decide)]
    by_cases g : zFt A a m k
    · rw [if_pos g]
      obtain ⟨g1, g2, g3, g4⟩ := g
      cases ho : zBst A a m k with
      | none => exact if_pos ⟨hv.mpr g1, zi_1.mpr g3, g4, g2⟩
      | some j =>
        show (if zVf B k ∧ ¬ A.2 12 k ≤ B.2 12 j ∧ ¬ m / nI 2 < A.2 12 k ∧ zsv A k = a then some k else some j) = if A.2 12 k ≤ A.2 12 j then some j else some k
        rw [hA.k 12 (by decide)]
        by_cases q : A.2 12 k ≤ A.2 12 j
        · rw [if_pos q, if_neg (fun z => z.2.1 q)]
        · rw [if_neg q, if_pos ⟨hv.mpr g1, q, g4, g2⟩]
    · rw [if_neg g]
      refine if_neg (fun z => g ⟨hv.mp z.1, z.2.2.2, ?_, z.2.2.1⟩)
      have z1 := z.2.1
      cases ho : zBst A a m k with
      | none =>
        rw [ho] at z1
        exact zi_1.mp z1
      | some j =>
        rw [ho] at z1
        have z2 : ¬ A.2 12 k ≤ A.2 12 j := by rw [← hA.k 12 (by decide)]; rw [← hA.k 12 (by decide)] at z1; exact z1
        have z3 := zBst_ge ho
        rw [Int32.le_iff_toInt_le] at z2
        rw [Int32.lt_iff_toInt_lt] at z3 ⊢
        omega
theorem zbst2 (h : zJ A t D F T L) (a m : Int32) : ∀ n, 8 * D + n ≤ 96 → zBst A a m (8 * D + n) = zBst A a m (8 * D)
  | 0, _ => rfl
  | n + 1, hn => by
    show zBst A a m (8 * D + n + 1) = _
    rw [zBst, if_neg (fun z => z.1 (by rw [h.gap (by omega) (by omega)]; exact Int32.le_refl 0)), zbst2 h a m n (by omega)]
theorem zbst (h : zJ A t D F T L) (hA : zAg A B) (a m : Int32) : zhv B a (m / nI 2) 96 = zBst A a m (8 * D) := by
  have h1 := h.bas.2.2.1
  rw [zbst1 h hA a m 96 (Nat.le_refl _)]
  have h2 := zbst2 h a m (96 - 8 * D) (by omega)
  rw [show 8 * D + (96 - 8 * D) = 96 by omega] at h2
  exact h2
theorem zHl_n (A : ZA) {i : Nat} (hi : i ≠ 12) : ∀ k, (zHl A k).2 i = A.2 i
  | 0 => rfl
  | k + 1 => by rw [zHl, zsa_n _ _ _ _ _ hi]; exact zHl_n A hi k
theorem zHl_12 (A : ZA) (j : Nat) : ∀ k, (zHl A k).2 12 j = if j < k then A.2 12 j / nI 2 else A.2 12 j
  | 0 => by rw [if_neg (Nat.not_lt_zero j)]; rfl
  | k + 1 => by
    have ih := zHl_12 A j k
    rw [zHl, zsa_2]
    by_cases e : j = k
    · subst e
      rw [if_pos ⟨rfl, rfl⟩, if_pos (Nat.lt_succ_self j), ih, if_neg (Nat.lt_irrefl j)]
    · rw [if_neg (fun z => e z.2), ih]
      by_cases g : j < k
      · rw [if_pos g, if_pos (by omega)]
      · rw [if_neg g, if_neg (by omega)]
theorem zhL_12 (B : ZA) (j : Nat) (hv : zVf B j) : ∀ k, (zhL B k).2 12 j = if j < k then B.2 12 j / nI 2 else B.2 12 j
  | 0 => by rw [if_neg (Nat.not_lt_zero j)]; rfl
  | k + 1 => by
    have ih := zhL_12 B j hv k
    rw [zhL]
    by_cases e : j = k
    · subst e
      rw [if_pos hv, zsa_2, if_pos ⟨rfl, rfl⟩, if_pos (Nat.lt_succ_self j), ih, if_neg (Nat.lt_irrefl j)]
    · have e2 : (if zVf B k then zsa (zhL B k) 12 k ((zhL B k).2 12 k / nI 2) else zhL B k).2 12 j = (zhL B k).2 12 j := by
        split
        · rw [zsa_2, if_neg (fun z => e z.2)]
        · rfl
      rw [e2, ih]
      by_cases g : j < k
      · rw [if_pos g, if_pos (by omega)]
      · rw [if_neg g, if_neg (by omega)]
/-- the class's state with the other's loads -/
def zhp (X B : ZA) : ZA := (B.1, fun i => if i = 12 then X.2 12 else B.2 i)
theorem zhp_n {X B : ZA} {i : Nat} (h : i ≠ 12) : (zhp X B).2 i = B.2 i := if_neg h
theorem zhp_12 {X B : ZA} : (zhp X B).2 12 = X.2 12 := (if_pos rfl : (if (12 : Nat) = 12 then X.2 12 else B.2 12) = X.2 12)
theorem zRS.hl (hJ : zJ A t D F T L) (hA : zAg A B) (hl : zLs A B) (he : zAe A B L) (hu : zUm B D) : zRS (zHl A (8 * D)) (zhp (zHl A (8 * D)) B) (t + 1) := by
  refine ⟨D, F, T, L, hJ.se (zHl_1 _ _) ?_ ?_ ?_ ?_ ?_ ?_, ⟨?_, fun i h1 h2 => ?_⟩, hl.cg ?_ ?_ ?_ ?_, he.cg ?_ ?_ ?_, hu.cg ?_ ?_ ?_⟩
  any_goals exact zHl_n _ (by decide) _
  any_goals exact zhp_n (by decide)
  · rw [zHl_1]
    exact hA.1
  · by_cases e : i = 12
    · rw [e, zhp_12]
    · rw [zhp_n e, zHl_n _ e]
      exact hA.2 i h1 h2
  · rw [zHl_1]
theorem zCW.hl {M : ZM} {W : Nat → Nat → Nat} {v : Option Value} {o : ZO} {M' : ZM} {B0 : ZA} (hJ : zJ A t D F T L) (hA : zAg A B) (h : zCW W M B0 v (zhL B 96) o M') : zCW W M B0 v (zhp (zHl A (8 * D)) B) o M' := by
  have e3 := zhL_n B (i := 3) (by decide) 96
  have e10 := zhL_n B (i := 10) (by decide) 96
  refine h.nrm (zhL_1 B 96).symm (fun i h1 h2 => ?_) (fun j h1 => ?_) (fun j h1 h2 h3 => ?_)
  · rw [zhp_n h2, zhL_n B h2]
  · rw [zhp_n (by decide), zhL_n B (by decide)]
  · rw [e3] at h2
    rw [e10] at h3
    have h2A : A.2 3 (j / 8) = 1 := by rw [← hA.k 3 (by decide)]; exact h2
    have := hJ.al (d := j / 8) (by omega) h2A
    rw [zhp_12, zHl_12, if_pos (by omega), zhL_12 B j ⟨h2, h3⟩, if_pos h1, hA.k 12 (by decide)]
theorem sm_balance (h : zRS A B t) : zSim mX2_balance mX3_balance [] A B t zI1 [zISE] := by
  obtain ⟨D, F, T, L, hJ, hA, hl, he, hu⟩ := id h
  have hD := hJ.bas
  rcases hJ.mm with hm | ⟨m, hm96, hm, hmv, hmz, hm17⟩
  · have hmB : B.1 16 = -1 := by rw [hA.1]; exact hm
    have eg : zgl B = zlo A D := funext fun s => (zload hJ hA (nI s)).symm
    have ex : zbx B = zba A D := by unfold zbx zba; rw [eg]
    have ey : zby B = zbb A D := by unfold zby zbb; rw [eg]
    have eu : zbu B = zbm A D := by unfold zbu zbm; rw [eg, ex, ey]
    have eo : zbc B = zbo A D := by
      unfold zbc zbo
      rw [eu, ex]
      by_cases g : zbm A D < nI 4
      · rw [if_pos g, if_pos g]
      · rw [if_neg g, if_neg g]
        exact zbst hJ hA _ _
    cases ho : zbo A D with
    | none =>
      refine zSim.ok (-1) _ _ (zRS.hl hJ hA hl he hu) (fun G M W hC => ?_) (fun G M x q w hR => ct_X3_balance_none hR hJ.wf hJ.dz hD.1 hD.2.2.1 hm ho)
      have := ct_X2_balance_none (G := G) hC (hA.wf hJ.wf) hmB (by rw [eo]; exact ho)
      exact (zMet.w this (fun i j hv => (zVal.cg (zhL_n _ (by decide) _) (zhL_n _ (by decide) _)).mp hv)).mono (fun o M' g => zCW.hl hJ hA g)
    | some j =>
      have hob : zbc B = some j := by rw [eo]; exact ho
      have hj : j < 96 ∧ zVf B j := by
        unfold zbc at hob
        split at hob
        · cases hob
        · exact zhv_ok hob
      have hv : A.2 3 (j / 8) = 1 := by rw [← hA.k 3 (by decide)]; exact hj.2.1
      have hz : ¬ A.2 10 j = 0 := by rw [← hA.k 10 (by decide)]; exact hj.2.2
      have hle : zbb A D ≤ 3 := zMn_le _ 3
      have hmo := zRS.mo hJ hA hl he hu hj.1 hv hz (s := nI (zbb A D)) (nI_ne1 (by omega))
      obtain ⟨g1, g2, g3, g4, g5⟩ := hmo
      have g1' : zJ (zMo A (nI j) (nI (zbb A D))) t D F T L := hJ.cg rfl rfl rfl rfl rfl rfl hJ.1 hJ.2.1 rfl rfl (Or.inr ⟨j, hj.1, rfl, hv, hz, nI_ne1 (by omega)⟩)
      refine zSim.ok (nI (j / 8)) _ _ (zRS.hl g1' g2 g3 g4 g5) (fun G M W hC => ?_) (fun G M x q w hR => ct_X3_balance_some hR hJ.wf hJ.dz hD.1 hD.2.2.1 hm ho)
      have := ct_X2_balance_some (G := G) hC (hA.wf hJ.wf) hmB hob
      rw [ey] at this
      exact (zMet.w this (fun i k hv => (zMo_val (A := B)).mp ((zVal.cg (zhL_n (zMo B (nI j) (nI (zbb A D))) (by decide) 96) (zhL_n (zMo B (nI j) (nI (zbb A D))) (by decide) 96)).mp hv))).mono (fun o M' g => zCW.hl g1' g2 g)
  · have hmB : B.1 16 = nI m := by rw [hA.1]; exact hm
    exact zSim.no 0 zISE (nI 0) h rfl (fun G M W hC => ct_X2_balance_bad hC hmB (hA.val.mpr ⟨hm96, hmv, hmz⟩)) (fun G M x q w hR => ct_X3_balance_bad hR (by rw [hm]; exact nI_ne1 (by omega)))
end ZSI
