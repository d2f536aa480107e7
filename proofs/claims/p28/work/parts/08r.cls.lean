/-! the class: split, merge -/
/-- a call after which new objects may be there -/
def zCW (W : Nat → Nat → Nat) (M : ZM) (B : ZA) (v : Option Value) (B' : ZA) : ZO → ZM → Prop := fun o M' => o = .inl v ∧ ∃ W' : Nat → Nat → Nat, zC M' W' B' ∧ zFm M W B M' ∧ W' 10 0 = W 10 0 ∧ ∀ i j, zVal B' i j → (zVal B i j ∧ W' i j = W i j) ∨ zk M (W' i j) = 0
theorem zCP.w {W : Nat → Nat → Nat} {M : ZM} {B B' : ZA} {v : Option Value} {o : ZO} {M' : ZM} (h : zCP W M B v B' o M') (hs : ∀ i j, zVal B' i j → zVal B i j) : zCW W M B v B' o M' := ⟨h.1, W, h.2.1, h.2.2, rfl, fun i j hv => Or.inl ⟨hs i j hv, rfl⟩⟩
theorem halve_fr {M : ZM} {W : Nat → Nat → Nat} {B : ZA} (hC : zC M W B) {d g t a : Nat} (hv : zVal B 3 d) (ht : 1 ≤ t) (hg : g + t + t ≤ 8) (e1 : B.2 10 (8 * d + g) = nI (2 * t)) (ha : zk M a = 0) (i j : Nat) (h : zVal (zSp B (8 * d + g) (2 * t)) i j) : (zVal B i j ∧ zW1 W 9 (8 * d + g + t) a i j = W i j) ∨ zk M (zW1 W 9 (8 * d + g + t) a i j) = 0 := by
  by_cases hn : i = 9 ∧ j = 8 * d + g + t
  · refine Or.inr ?_
    rw [show zW1 W 9 (8 * d + g + t) a i j = a from if_pos hn]
    exact ha
  · refine Or.inl ⟨?_, if_neg hn⟩
    have h2t : 2 * t / 2 = t := by omega
    have hk : (zSp B (8 * d + g) (2 * t)).2 3 = B.2 3 := by
      unfold zSp
      rw [zsa_n _ _ _ _ _ (by decide), zsa_n _ _ _ _ _ (by decide), zsa_n _ _ _ _ _ (by decide), zsa_n _ _ _ _ _ (by decide), zsa_n _ _ _ _ _ (by decide)]
    unfold zVal at h ⊢
    rw [hk] at h
    split at h
    all_goals first
      | exact h
      | (refine ⟨h.1, h.2.1, ?_⟩
         have h4 := h.2.2
         unfold zSp at h4
         rw [h2t, zsa_n _ _ _ _ _ (by decide), zsa_n _ _ _ _ _ (by decide), zsa_n _ _ _ _ _ (by decide), zsa_2, if_neg (fun z => hn ⟨rfl, z.2⟩), zsa_2] at h4
         split at h4
         · rename_i h5
           rw [h5.2, e1]
           exact nI_ne0 (by omega) (by omega)
         · exact h4)
