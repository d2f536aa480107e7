def zW1 (W : Nat → Nat → Nat) (i0 j0 a : Nat) : Nat → Nat → Nat := fun i j => if i = i0 ∧ j = j0 then a else W i j
theorem zfg_ne0 (s : Nat → Int32) (d : Nat) : ∀ h, ¬ zfg s d h = 0 → ¬ s (8 * d + zfg s d h) = 0
  | 0, h => absurd rfl h
  | h + 1, h0 => by
    unfold zfg at h0 ⊢
    split
    · rename_i h1
      rw [if_pos h1] at h0
      exact zfg_ne0 s d h h0
    · assumption
theorem zC.halve {M M4 M' : ZM} {W : Nat → Nat → Nat} {B : ZA} (hC : zC M W B) (hM : zMw B) {d g t a : Nat} (hv : zVal B 3 d) (ht : 1 ≤ t) (hg : g + t + t ≤ 8) (e1 : B.2 10 (8 * d + g) = nI (2 * t)) (e2 : B.2 10 (8 * d + g + t) = 0) (hT : ∀ h, h < 8 → zfg ((zSp B (8 * d + g) (2 * t)).2 10) d h = if g + t ≤ h ∧ h < g + t + t then g + t else zfg (B.2 10) d h) (ha : zk M a = 0) (hsm : ∀ y, y ≠ a → y ≠ W 9 (8 * d + g) → zsame M M4 y)
    (fa : zk M4 a = 2 ∧ zi M4 a 0 = nI d ∧ zi M4 a 1 = nI (g + t) ∧ zi M4 a 2 = nI t ∧ zi M4 a 3 = B.2 11 (8 * d + g) ∧ zi M4 a 4 = B.2 12 (8 * d + g) / nI 2) (ff : zk M4 (W 9 (8 * d + g)) = 2 ∧ zi M4 (W 9 (8 * d + g)) 0 = zi M (W 9 (8 * d + g)) 0 ∧ zi M4 (W 9 (8 * d + g)) 1 = zi M (W 9 (8 * d + g)) 1 ∧ zi M4 (W 9 (8 * d + g)) 2 = nI t ∧ zi M4 (W 9 (8 * d + g)) 3 = zi M (W 9 (8 * d + g)) 3 ∧ zi M4 (W 9 (8 * d + g)) 4 = B.2 12 (8 * d + g) - B.2 12 (8 * d + g) / nI 2)
    (hPB : zPB M4 M' (W 8 d) a (g + t) t 8) : zC M' (zW1 W 9 (8 * d + g + t) a) (zSp B (8 * d + g) (2 * t)) ∧ zFm M W B M' := by
  have hd := hv.1
  have h2t : 2 * t / 2 = t := by omega
  have hv1 : zVal B 9 (8 * d + g) := ⟨by omega, by rw [show (8 * d + g) / 8 = d by omega]; exact hv.2, by rw [e1]; exact nI_ne0 (by omega) (by omega)⟩
  have h8a : W 8 d ≠ a := fun e => hC.nz (i := 8) (j := d) hv (e ▸ ha)
  have h9a : W 9 (8 * d + g) ≠ a := fun e => hC.nz hv1 (e ▸ ha)
  have hva : ∀ i j, zVal B i j → W i j ≠ a := fun i j h e => hC.nz h (e ▸ ha)
  have hsm' : ∀ y, y ≠ W 8 d → y ≠ a → y ≠ W 9 (8 * d + g) → zsame M M' y := fun y h0 h1 h2 => (hsm y h1 h2).tr (hPB.1 y h0)
  have h10 : ∀ j, (zSp B (8 * d + g) (2 * t)).2 10 j = if j = 8 * d + g + t then nI t else if j = 8 * d + g then nI t else B.2 10 j := fun j => by
    unfold zSp
    rw [h2t, zsa_n _ _ _ _ _ (by decide), zsa_n _ _ _ _ _ (by decide), zsa_n _ _ _ _ _ (by decide), zsa_2, zsa_2]
    by_cases h1 : j = 8 * d + g + t
    · rw [if_pos ⟨rfl, h1⟩, if_pos h1]
    · rw [if_neg (fun z => h1 z.2), if_neg h1]
      by_cases h2 : j = 8 * d + g
      · rw [if_pos ⟨rfl, h2⟩, if_pos h2]
      · rw [if_neg (fun z => h2 z.2), if_neg h2]
  have h11 : ∀ j, (zSp B (8 * d + g) (2 * t)).2 11 j = if j = 8 * d + g + t then B.2 11 (8 * d + g) else B.2 11 j := fun j => by
    unfold zSp
    rw [h2t, zsa_n _ _ _ _ _ (by decide), zsa_n _ _ _ _ _ (by decide), zsa_2]
    by_cases h1 : j = 8 * d + g + t
    · rw [if_pos ⟨rfl, h1⟩, if_pos h1]
    · rw [if_neg (fun z => h1 z.2), if_neg h1]
      rfl
  have h12 : ∀ j, (zSp B (8 * d + g) (2 * t)).2 12 j = if j = 8 * d + g then B.2 12 (8 * d + g) - B.2 12 (8 * d + g) / nI 2 else if j = 8 * d + g + t then B.2 12 (8 * d + g) / nI 2 else B.2 12 j := fun j => by
    unfold zSp
    rw [h2t, zsa_2, zsa_2]
    by_cases h1 : j = 8 * d + g
    · rw [if_pos ⟨rfl, h1⟩, if_pos h1]
    · rw [if_neg (fun z => h1 z.2), if_neg h1]
      by_cases h2 : j = 8 * d + g + t
      · rw [if_pos ⟨rfl, h2⟩, if_pos h2]
      · rw [if_neg (fun z => h2 z.2), if_neg h2]
        rfl
  have hk : ∀ k, k ≠ 10 → k ≠ 11 → k ≠ 12 → (zSp B (8 * d + g) (2 * t)).2 k = B.2 k := fun k h1 h2 h3 => by
    unfold zSp
    rw [zsa_n _ _ _ _ _ h3, zsa_n _ _ _ _ _ h3, zsa_n _ _ _ _ _ h2, zsa_n _ _ _ _ _ h1, zsa_n _ _ _ _ _ h1]
  have hval : ∀ i j, ¬ (i = 9 ∧ j = 8 * d + g + t) → zVal (zSp B (8 * d + g) (2 * t)) i j → zVal B i j := by
    intro i j hn h
    have h3 : (zSp B (8 * d + g) (2 * t)).2 3 = B.2 3 := hk 3 (by decide) (by decide) (by decide)
    unfold zVal at h ⊢
    rw [h3] at h
    split at h
    all_goals first
      | exact h
      | (refine ⟨h.1, h.2.1, ?_⟩
         have h4 := h.2.2
         rw [h10, if_neg (fun z => hn ⟨rfl, z⟩)] at h4
         split at h4
         · rename_i h5
           rw [h5, e1]
           exact nI_ne0 (by omega) (by omega)
         · exact h4)
  have eW : ∀ i j, i ≠ 9 → zW1 W 9 (8 * d + g + t) a i j = W i j := fun i j h => if_neg (fun z => h z.1)
  have eW9 : ∀ j, j ≠ 8 * d + g + t → zW1 W 9 (8 * d + g + t) a 9 j = W 9 j := fun j h => if_neg (fun z => h z.2)
  have eWn : ∀ i j, ¬ (i = 9 ∧ j = 8 * d + g + t) → zW1 W 9 (8 * d + g + t) a i j = W i j := fun i j h => if_neg h
  have eWa : zW1 W 9 (8 * d + g + t) a 9 (8 * d + g + t) = a := if_pos ⟨rfl, rfl⟩
  refine ⟨⟨fun i j h => ?_, fun i j i' j' h1 h2 e => ?_⟩, fun y hy h2 => hsm' y (h2 8 d hv) (fun e => hy (e ▸ ha)) (h2 9 _ hv1)⟩
  · by_cases hn : i = 9 ∧ j = 8 * d + g + t
    · obtain ⟨rfl, rfl⟩ := hn
      obtain ⟨s1, s2, s3, s4, s5⟩ := hPB.1 a h8a.symm
      obtain ⟨o1, o2, o3, o4, o5, o6⟩ := fa
      show zk M' (zW1 W 9 (8 * d + g + t) a 9 (8 * d + g + t)) = 2 ∧ zi M' (zW1 W 9 (8 * d + g + t) a 9 (8 * d + g + t)) 0 = nI ((8 * d + g + t) / 8) ∧ zi M' (zW1 W 9 (8 * d + g + t) a 9 (8 * d + g + t)) 1 = nI ((8 * d + g + t) % 8) ∧ zi M' (zW1 W 9 (8 * d + g + t) a 9 (8 * d + g + t)) 2 = (zSp B (8 * d + g) (2 * t)).2 10 (8 * d + g + t) ∧ zi M' (zW1 W 9 (8 * d + g + t) a 9 (8 * d + g + t)) 3 = (zSp B (8 * d + g) (2 * t)).2 11 (8 * d + g + t) ∧ zi M' (zW1 W 9 (8 * d + g + t) a 9 (8 * d + g + t)) 4 = (zSp B (8 * d + g) (2 * t)).2 12 (8 * d + g + t)
      rw [eWa, h10, if_pos rfl, h11, if_pos rfl, h12, if_neg (by omega), if_pos rfl, show (8 * d + g + t) / 8 = d by omega, show (8 * d + g + t) % 8 = g + t by omega]
      exact ⟨s1.trans o1, (s3 0).trans o2, (s3 1).trans o3, (s3 2).trans o4, (s3 3).trans o5, (s3 4).trans o6⟩
    have hv' := hval i j hn h
    have hO := hC.1 i j hv'
    have hne8 : ¬ (i = 8 ∧ j = d) → W i j ≠ W 8 d := fun hn e => hn (hC.2 i j 8 d hv' hv e)
    have hne9 : ¬ (i = 9 ∧ j = 8 * d + g) → W i j ≠ W 9 (8 * d + g) := fun hn e => hn (hC.2 i j 9 _ hv' hv1 e)
    have hna := hva i j hv'
    by_cases hi : i < 8
    · exact zOb.cg eW hk hi hv' (zOb.same hv' (hsm' _ (hne8 (fun z => by omega)) hna (hne9 (fun z => by omega))) hO)
    have hl := hv'.lt
    match i, hi, hl with
    | 8, _, _ =>
      by_cases hj : j = d
      · subst hj
        refine ⟨hPB.2.1, hPB.2.2.1, fun h hh => ?_⟩
        rw [eW 8 j (by decide), hPB.2.2.2, hT h hh]
        by_cases hc : g + t ≤ h ∧ h < g + t + t
        · rw [if_pos ⟨hh, hc⟩, if_pos hc, show 8 * j + (g + t) = 8 * j + g + t by omega, eWa]
        · rw [if_neg (fun z => hc z.2), if_neg hc, ((hsm (W 8 j) hna (hne9 (fun z => absurd z.1 (by decide)))).2.2.2.1 h), hO.2.2 h hh, eW9]
          intro e
          have e9 : zfg (B.2 10) j h = g + t := by omega
          have hz := zfg_ne0 (B.2 10) j h (fun z => by rw [z] at e9; omega)
          rw [e9, show 8 * j + (g + t) = 8 * j + g + t by omega] at hz
          exact hz e2
      · obtain ⟨g1, g2, g3⟩ := zOb.same hv' (hsm' _ (hne8 (fun z => hj z.2)) hna (hne9 (fun z => absurd z.1 (by decide)))) hO
        refine ⟨by rw [eW 8 j (by decide)]; exact g1, by rw [eW 8 j (by decide)]; exact g2, fun h hh => ?_⟩
        have h7 := zfg_le (B.2 10) j h
        rw [eW 8 j (by decide), zfg_cg (S := B.2 10) (fun x hx => by rw [h10, if_neg (by omega), if_neg (by omega)]), eW9 _ (by omega)]
        exact g3 h hh
    | 9, _, _ =>
      have hjn : j ≠ 8 * d + g + t := fun z => hn ⟨rfl, z⟩
      show zk M' (zW1 W 9 (8 * d + g + t) a 9 j) = 2 ∧ zi M' (zW1 W 9 (8 * d + g + t) a 9 j) 0 = nI (j / 8) ∧ zi M' (zW1 W 9 (8 * d + g + t) a 9 j) 1 = nI (j % 8) ∧ zi M' (zW1 W 9 (8 * d + g + t) a 9 j) 2 = (zSp B (8 * d + g) (2 * t)).2 10 j ∧ zi M' (zW1 W 9 (8 * d + g + t) a 9 j) 3 = (zSp B (8 * d + g) (2 * t)).2 11 j ∧ zi M' (zW1 W 9 (8 * d + g + t) a 9 j) 4 = (zSp B (8 * d + g) (2 * t)).2 12 j
      rw [eW9 j hjn, h10, if_neg hjn, h11, if_neg hjn, h12]
      by_cases hj : j = 8 * d + g
      · subst hj
        have h8 : W 9 (8 * d + g) ≠ W 8 d := fun e => absurd (hC.2 9 _ 8 d hv' hv e).1 (by decide)
        obtain ⟨s1, s2, s3, s4, s5⟩ := hPB.1 _ h8
        obtain ⟨o1, o2, o3, o4, o5, o6⟩ := hO
        obtain ⟨f1, f2, f3, f4, f5, f6⟩ := ff
        rw [if_pos rfl, if_pos rfl]
        exact ⟨s1.trans f1, (s3 0).trans (f2.trans o2), (s3 1).trans (f3.trans o3), (s3 2).trans f4, (s3 3).trans (f5.trans o5), (s3 4).trans f6⟩
      · rw [if_neg hj, if_neg hj, if_neg hjn]
        exact zOb.same hv' (hsm' _ (hne8 (fun z => absurd z.1 (by decide))) hna (hne9 (fun z => hj z.2))) hO
    | 10, _, _ =>
      refine zOb.cx eW rfl (fun m hm hm9 => eW9 m (fun e => ?_)) hM.b hv'.2 (zOb.same hv' (hsm' _ (hne8 (fun z => absurd z.1 (by decide))) hna (hne9 (fun z => absurd z.1 (by decide)))) hO)
      rcases hM with h0 | ⟨m', h1, h2⟩
      · rw [h0] at hm
        exact nI_ne1 (by omega) hm.symm
      · rw [h1] at hm
        have := (nI_eq (by have := h2.1; omega) (by omega)).mp hm
        subst this
        subst e
        exact h2.2.2 e2
    | i + 11, _, hl => exact absurd hl (by omega)
  · by_cases hn1 : i = 9 ∧ j = 8 * d + g + t
    · by_cases hn2 : i' = 9 ∧ j' = 8 * d + g + t
      · exact ⟨hn1.1.trans hn2.1.symm, hn1.2.trans hn2.2.symm⟩
      · rw [eWn i' j' hn2, hn1.1, hn1.2, eWa] at e
        exact absurd e.symm (hva _ _ (hval i' j' hn2 h2))
    · by_cases hn2 : i' = 9 ∧ j' = 8 * d + g + t
      · rw [eWn i j hn1, hn2.1, hn2.2, eWa] at e
        exact absurd e (hva _ _ (hval i j hn1 h1))
      · rw [eWn i j hn1, eWn i' j' hn2] at e
        exact hC.2 i j i' j' (hval i j hn1 h1) (hval i' j' hn2 h2) e

