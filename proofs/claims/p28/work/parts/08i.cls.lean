/-! the class: fragments split and merge -/
def zPP (P0 : ZM → Prop) (v : Option Value) : ZO → ZM → Prop := fun o M' => o = .inl v ∧ P0 M'
section ZPP
variable {E : ZE} {G : ZG} {u : Nat} {Q : State → Prop} {b pc : Nat} {L : List (Option Value)} {S : List Value}
theorem zPP_r {P0 : ZM → Prop} {v : Option Value} {n : Nat} (k : ∀ M', P0 M' → WW E G u Q M' n (pc + 3) L (v.toList ++ S)) : ∀ (v' : Option Value) (M' : ZM), zPP P0 v (.inl v') M' → WW E G u Q M' n (pc + 3) L (v'.toList ++ S) := by
  rintro v' M' ⟨h1, h2⟩
  cases h1
  exact k M' h2
theorem zPP_x {P0 : ZM → Prop} {v : Option Value} {n : Nat} : ∀ (En : String) (M' : ZM), zPP P0 v (.inr En) M' → XX E G u Q M' n pc L En := by
  rintro En M' ⟨h1, -⟩
  cases h1
end ZPP
theorem zfg_cg {S S' : Nat → Int32} {d : Nat} : ∀ {h : Nat}, (∀ x, x ≤ h → S' (8 * d + x) = S (8 * d + x)) → zfg S' d h = zfg S d h
  | 0, _ => rfl
  | h + 1, e => by
    unfold zfg
    rw [e (h + 1) (Nat.le_refl _), zfg_cg (fun x hx => e x (by omega))]
section ZSZ
variable {M M' : ZM} {W W' : Nat → Nat → Nat} {B B' : ZA}
theorem zC.nz (hC : zC M W B) {i j : Nat} (hv : zVal B i j) : ¬ zk M (W i j) = 0 := by
  intro e
  have h := hC.1 i j hv
  have hl := hv.lt
  have hj : (i < 3 ∨ i = 10) → j = 0 := by
    intro h
    rcases h with h | rfl
    · match i, h with
      | 0, _ => exact hv.2
      | 1, _ => exact hv.2
      | 2, _ => exact hv.2
    · exact hv.2
  match i, hl with
  | 0, _ => exact absurd (h.1.symm.trans e) (by decide)
  | 1, _ => exact absurd (h.1.symm.trans e) (by decide)
  | 2, _ => exact absurd (h.1.symm.trans e) (by decide)
  | 3, _ => exact absurd (h.1.symm.trans e) (by decide)
  | 4, _ => exact absurd (h.1.symm.trans e) (by decide)
  | 5, _ => exact absurd (h.1.symm.trans e) (by decide)
  | 6, _ => exact absurd (h.1.symm.trans e) (by decide)
  | 7, _ => exact absurd (h.1.symm.trans e) (by decide)
  | 8, _ => exact absurd (h.1.symm.trans e) (by decide)
  | 9, _ => exact absurd (h.1.symm.trans e) (by decide)
  | 10, _ => exact absurd (h.1.symm.trans e) (by decide)
/-- cells that don't hang on fragments -/
theorem zOb.cg (eW : ∀ i j, i ≠ 9 → W' i j = W i j) (hk : ∀ k, k ≠ 10 → k ≠ 11 → k ≠ 12 → B'.2 k = B.2 k) : ∀ {i j : Nat}, i < 8 → zVal B i j → zOb M W B i j → zOb M W' B' i j
  | 0, j, _, _, h => ⟨by rw [eW 0 j (by decide)]; exact h.1, by rw [eW 0 j (by decide)]; exact h.2.1, fun d hd => by rw [eW 0 j (by decide), eW 3 d (by decide), hk 3 (by decide) (by decide) (by decide)]; exact h.2.2 d hd⟩
  | 1, j, _, _, h => ⟨by rw [eW 1 j (by decide)]; exact h.1, by rw [eW 1 j (by decide)]; exact h.2.1, fun d hd => by rw [eW 1 j (by decide), hk 14 (by decide) (by decide) (by decide)]; exact h.2.2 d hd⟩
  | 2, j, _, _, h => ⟨by rw [eW 2 j (by decide)]; exact h.1, by rw [eW 2 j (by decide)]; exact h.2.1, fun d hd => by rw [eW 2 j (by decide), hk 15 (by decide) (by decide) (by decide)]; exact h.2.2 d hd⟩
  | 3, j, _, _, h => by
    have e4 : zpar B' j = zpar B j := by unfold zpar; rw [hk 4 (by decide) (by decide) (by decide)]
    show zk M (W' 3 j) = 1 ∧ zi M (W' 3 j) 0 = nI j ∧ (zr M (W' 3 j) 1 = if j = 0 then none else some (W' 3 (zpar B' j))) ∧ zi M (W' 3 j) 2 = B'.2 5 j ∧ zr M (W' 3 j) 3 = some (W' 4 j) ∧ zr M (W' 3 j) 4 = some (W' 5 j) ∧ zr M (W' 3 j) 5 = some (W' 6 j) ∧ zr M (W' 3 j) 6 = some (W' 8 j)
    rw [e4, hk 5 (by decide) (by decide) (by decide), eW 3 j (by decide), eW 3 (zpar B j) (by decide), eW 4 j (by decide), eW 5 j (by decide), eW 6 j (by decide), eW 8 j (by decide)]
    exact h
  | 4, j, _, _, h => ⟨by rw [eW 4 j (by decide)]; exact h.1, by rw [eW 4 j (by decide)]; exact h.2.1, fun d hd => by rw [eW 4 j (by decide), hk 6 (by decide) (by decide) (by decide)]; exact h.2.2 d hd⟩
  | 5, j, _, _, h => ⟨by rw [eW 5 j (by decide)]; exact h.1, by rw [eW 5 j (by decide)]; exact h.2.1, fun d hd => by rw [eW 5 j (by decide), hk 7 (by decide) (by decide) (by decide)]; exact h.2.2 d hd⟩
  | 6, j, _, _, h => ⟨by rw [eW 6 j (by decide)]; exact h.1, by rw [eW 6 j (by decide)]; exact h.2.1, fun d hd => by rw [eW 6 j (by decide), eW 7 (4 * j + d) (by decide)]; exact h.2.2 d hd⟩
  | 7, j, _, _, h => ⟨by rw [eW 7 j (by decide)]; exact h.1, by rw [eW 7 j (by decide)]; exact h.2.1, fun d hd => by rw [eW 7 j (by decide), hk 13 (by decide) (by decide) (by decide)]; exact h.2.2 d hd⟩
  | i + 8, _, h, _, _ => absurd h (by omega)
/-- the object itself, where the move stays -/
theorem zOb.cx (eW : ∀ i j, i ≠ 9 → W' i j = W i j) (e1 : B'.1 = B.1) (em : ∀ m, B.1 16 = nI m → m < 96 → W' 9 m = W 9 m) (hM : B.1 16 = -1 ∨ ∃ m, B.1 16 = nI m ∧ m < 96) {j : Nat} (hj : j = 0) (h : zOb M W B 10 j) : zOb M W' B' 10 j := by
  subst hj
  obtain ⟨h1, ⟨h2, h3, h4⟩, h5, h6⟩ := h
  show zk M (W' 10 0) = 3 ∧ (zr M (W' 10 0) 0 = some (W' 0 0) ∧ zr M (W' 10 0) 5 = some (W' 1 0) ∧ zr M (W' 10 0) 6 = some (W' 2 0)) ∧ (zi M (W' 10 0) 1 = B'.1 2 ∧ zi M (W' 10 0) 2 = B'.1 9 ∧ zi M (W' 10 0) 3 = B'.1 8 ∧ zi M (W' 10 0) 4 = B'.1 1 ∧ zi M (W' 10 0) 8 = B'.1 17 ∧ zi M (W' 10 0) 9 = B'.1 18) ∧ (zr M (W' 10 0) 7 = if B'.1 16 = -1 then none else some (W' 9 (B'.1 16).toNatClampNeg))
  rw [e1, eW 10 0 (by decide), eW 0 0 (by decide), eW 1 0 (by decide), eW 2 0 (by decide)]
  refine ⟨h1, ⟨h2, h3, h4⟩, h5, ?_⟩
  rcases hM with e | ⟨m, e, hm⟩
  · rw [if_pos e]
    rw [if_pos e] at h6
    exact h6
  · rw [e, nI_clamp (by omega), em m e hm]
    rw [e, nI_clamp (by omega)] at h6
    exact h6
end ZSZ
theorem zMw.b {B : ZA} (h : zMw B) : B.1 16 = -1 ∨ ∃ m, B.1 16 = nI m ∧ m < 96 := h.imp id (fun ⟨m, h1, h2⟩ => ⟨m, h1, h2.1⟩)
theorem zC.join {M M' : ZM} {W : Nat → Nat → Nat} {B : ZA} (hC : zC M W B) (hM : zMw B) {d g s : Nat} (hv : zVal B 3 d) (hs1 : 1 ≤ s) (hg : g + (s + s) ≤ 8) (e1 : B.2 10 (8 * d + g) = nI s) (e2 : B.2 10 (8 * d + g + s) = nI s) (hT : ∀ h, h < 8 → zfg ((zMg B (8 * d + g) s).2 10) d h = if g ≤ h ∧ h < g + (s + s) then g else zfg (B.2 10) d h) (hPB : zPB (zsi (zsi M (W 9 (8 * d + g)) 2 (nI (s + s))) (W 9 (8 * d + g)) 4 (B.2 12 (8 * d + g) + B.2 12 (8 * d + g + s))) M' (W 8 d) (W 9 (8 * d + g)) g (s + s) 8) : zC M' W (zMg B (8 * d + g) s) ∧ zFm M W B M' := by
  have hd := hv.1
  have hv1 : zVal B 9 (8 * d + g) := ⟨by omega, by rw [show (8 * d + g) / 8 = d by omega]; exact hv.2, by rw [e1]; exact nI_ne0 (by omega) (by omega)⟩
  have hsm : ∀ y, y ≠ W 8 d → y ≠ W 9 (8 * d + g) → zsame M M' y := fun y h1 h2 => ((zsame.i h2).tr (zsame.i h2)).tr (hPB.1 y h1)
  have h10 : ∀ j, (zMg B (8 * d + g) s).2 10 j = if j = 8 * d + g + s then nI 0 else if j = 8 * d + g then nI (2 * s) else B.2 10 j := fun j => by
    unfold zMg
    rw [zsa_n _ _ _ _ _ (by decide), zsa_2, zsa_2]
    by_cases h1 : j = 8 * d + g + s
    · rw [if_pos ⟨rfl, h1⟩, if_pos h1]
    · rw [if_neg (fun z => h1 z.2), if_neg h1]
      by_cases h2 : j = 8 * d + g
      · rw [if_pos ⟨rfl, h2⟩, if_pos h2]
      · rw [if_neg (fun z => h2 z.2), if_neg h2]
  have hk : ∀ k, k ≠ 10 → k ≠ 11 → k ≠ 12 → (zMg B (8 * d + g) s).2 k = B.2 k := fun k h1 _ h3 => by
    unfold zMg
    rw [zsa_n _ _ _ _ _ h3, zsa_n _ _ _ _ _ h1, zsa_n _ _ _ _ _ h1]
  have hval : ∀ i j, zVal (zMg B (8 * d + g) s) i j → zVal B i j := by
    intro i j h
    have h3 : (zMg B (8 * d + g) s).2 3 = B.2 3 := hk 3 (by decide) (by decide) (by decide)
    unfold zVal at h ⊢
    rw [h3] at h
    split at h
    all_goals first
      | exact h
      | (refine ⟨h.1, h.2.1, ?_⟩
         have h4 := h.2.2
         rw [h10] at h4
         split at h4
         · exact absurd rfl h4
         · split at h4
           · rename_i h5
             rw [h5, e1]
             exact nI_ne0 (by omega) (by omega)
           · exact h4)
  refine ⟨⟨fun i j h => ?_, fun i j i' j' h1 h2 => hC.2 i j i' j' (hval i j h1) (hval i' j' h2)⟩, fun a _ h2 => hsm a (h2 8 d hv) (h2 9 _ hv1)⟩
  have hv' := hval i j h
  have hO := hC.1 i j hv'
  have hne8 : ¬ (i = 8 ∧ j = d) → W i j ≠ W 8 d := fun hn e => hn (hC.2 i j 8 d hv' hv e)
  have hne9 : ¬ (i = 9 ∧ j = 8 * d + g) → W i j ≠ W 9 (8 * d + g) := fun hn e => hn (hC.2 i j 9 _ hv' hv1 e)
  by_cases hi : i < 8
  · exact zOb.cg (fun _ _ _ => rfl) hk hi hv' (zOb.same hv' (hsm _ (hne8 (fun z => by omega)) (hne9 (fun z => by omega))) hO)
  have hl := hv'.lt
  match i, hi, hl with
  | 8, _, _ =>
    by_cases hj : j = d
    · subst hj
      refine ⟨hPB.2.1, hPB.2.2.1, fun h hh => ?_⟩
      rw [hPB.2.2.2, hT h hh]
      by_cases hc : g ≤ h ∧ h < g + (s + s)
      · rw [if_pos ⟨hh, hc⟩, if_pos hc]
      · rw [if_neg (fun z => hc z.2), if_neg hc]
        exact hO.2.2 h hh
    · obtain ⟨g1, g2, g3⟩ := zOb.same hv' (hsm _ (hne8 (fun z => hj z.2)) (hne9 (fun z => absurd z.1 (by decide)))) hO
      refine ⟨g1, g2, fun h hh => ?_⟩
      rw [zfg_cg (S := B.2 10) (fun x hx => by rw [h10, if_neg (by omega), if_neg (by omega)])]
      exact g3 h hh
  | 9, _, _ =>
    by_cases hj : j = 8 * d + g
    · subst hj
      have h8 : W 9 (8 * d + g) ≠ W 8 d := fun e => absurd (hC.2 9 _ 8 d hv' hv e).1 (by decide)
      obtain ⟨s1, s2, s3, s4, s5⟩ := hPB.1 _ h8
      obtain ⟨o1, o2, o3, o4, o5, o6⟩ := hO
      refine ⟨s1.trans o1, (s3 0).trans ?_, (s3 1).trans ?_, (s3 2).trans ?_, (s3 3).trans ?_, (s3 4).trans ?_⟩
      · rw [zi_i, if_neg (fun z => absurd z.2 (by decide)), zi_i, if_neg (fun z => absurd z.2 (by decide))]
        exact o2
      · rw [zi_i, if_neg (fun z => absurd z.2 (by decide)), zi_i, if_neg (fun z => absurd z.2 (by decide))]
        exact o3
      · rw [zi_i, if_neg (fun z => absurd z.2 (by decide)), zi_i, if_pos ⟨rfl, rfl⟩, h10, if_neg (by omega), if_pos rfl, Nat.two_mul]
      · rw [zi_i, if_neg (fun z => absurd z.2 (by decide)), zi_i, if_neg (fun z => absurd z.2 (by decide)), o5]
        rfl
      · rw [zi_i, if_pos ⟨rfl, rfl⟩]
        unfold zMg
        rw [zsa_2, if_pos ⟨rfl, rfl⟩]
    · obtain ⟨o1, o2, o3, o4, o5, o6⟩ := zOb.same hv' (hsm _ (hne8 (fun z => absurd z.1 (by decide))) (hne9 (fun z => hj z.2))) hO
      have h99 := h.2.2
      rw [h10] at h99
      refine ⟨o1, o2, o3, ?_, o5, ?_⟩
      · rw [o4, h10]
        split at h99
        · exact absurd rfl h99
        · rename_i h5
          rw [if_neg h5, if_neg hj]
      · rw [o6]
        unfold zMg
        rw [zsa_2, if_neg (fun z => hj z.2)]
        rfl
  | 10, _, _ =>
    exact zOb.cx (fun _ _ _ => rfl) rfl (fun _ _ _ => rfl) hM.b hv'.2 (zOb.same hv' (hsm _ (hne8 (fun z => absurd z.1 (by decide))) (hne9 (fun z => absurd z.1 (by decide)))) hO)
  | i + 11, _, hl => exact absurd hl (by omega)

