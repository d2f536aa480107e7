/-! the class: a new one -/
/-- the state at the beginning, with no directory yet -/
def zBz0 : ZA := zsc (zNs 600) 2 0
theorem zNs_1 : ∀ k, (zNs k).1 = (zsc zA1 16 (-1)).1
  | 0 => rfl
  | k + 1 => zNs_1 k
theorem zNs_n {i : Nat} (h : i ≠ 6) (j : Nat) : ∀ k, (zNs k).2 i j = 0
  | 0 => rfl
  | k + 1 => by rw [zNs, zsa_n _ _ _ _ _ h]; exact zNs_n h j k
theorem zNs_6 (j : Nat) : ∀ k, (zNs k).2 6 j = if j < k then -1 else 0
  | 0 => by rw [if_neg (by omega)]; rfl
  | k + 1 => by
    rw [zNs, zsa_2]
    by_cases e : j = k
    · rw [if_pos ⟨rfl, e⟩, if_pos (by omega)]
    · rw [if_neg (fun z => e z.2), zNs_6 j k]
      exact ite_congr (propext (by omega)) (fun _ => rfl) (fun _ => rfl)
/-- the first addresses -/
def zW0 (c a1 a2 a3 : Nat) (i _j : Nat) : Nat := match i with
  | 0 => a1
  | 1 => a2
  | 2 => a3
  | _ => c
theorem zC.zero {M : ZM} {c a1 a2 a3 : Nat} (h1 : zk M a1 = 8 ∧ zn M a1 = 12 ∧ ∀ d, d < 12 → zr M a1 d = none) (h2 : zk M a2 = 5 ∧ zn M a2 = 4 ∧ ∀ j, j < 4 → zi M a2 j = 0) (h3 : zk M a3 = 5 ∧ zn M a3 = 4 ∧ ∀ j, j < 4 → zi M a3 j = 0) (hc : zk M c = 3 ∧ (zr M c 0 = some a1 ∧ zr M c 5 = some a2 ∧ zr M c 6 = some a3) ∧ (∀ j, zi M c j = 0) ∧ zr M c 7 = none) (h23 : a2 ≠ a3) : zC M (zW0 c a1 a2 a3) zBz0 := by
  have hn : ∀ i j, i ≠ 6 → zBz0.2 i j = 0 := fun i j h => zNs_n h j 600
  have h30 : ∀ j, ¬ zBz0.2 3 j = 1 := fun j e => absurd ((hn 3 j (by decide)).symm.trans e) (by decide)
  have hg : ∀ k, zBz0.1 k = (if k = 2 then 0 else (if k = 16 then -1 else if k = 2 then 1 else 0)) := fun k => by
    show (if k = 2 then 0 else (zNs 600).1 k) = _
    rw [zNs_1]
    rfl
  have hs : ∀ k, k ≠ 16 → zBz0.1 k = 0 := fun k hk => by
    rw [hg]
    by_cases e : k = 2
    · rw [if_pos e]
    · rw [if_neg e, if_neg hk, if_neg e]
  have hs16 : zBz0.1 16 = -1 := (hg 16).trans (by decide)
  have hv : ∀ i j, zVal zBz0 i j → (i = 0 ∨ i = 1 ∨ i = 2 ∨ i = 10) ∧ j = 0 := fun i j h => by
    unfold zVal at h
    split at h
    · exact absurd h.2 (h30 _)
    · exact absurd h.2 (h30 _)
    · exact absurd h.2 (h30 _)
    · exact absurd h.2 (h30 _)
    · exact absurd h.2 (h30 _)
    · exact absurd h.2 (h30 _)
    · exact absurd h.2.1 (h30 _)
    · rename_i g1 g2 g3 g4 g5 g6 g7
      have k1 : i ≠ 3 := g1
      have k2 : i ≠ 4 := g2
      have k3 : i ≠ 5 := g3
      have k4 : i ≠ 6 := g4
      have k5 : i ≠ 7 := g5
      have k6 : i ≠ 8 := g6
      have k7 : i ≠ 9 := g7
      exact ⟨by omega, h.2⟩
  refine ⟨fun i j h => ?_, fun i j i' j' g1 g2 e => ?_⟩
  · obtain ⟨hi, rfl⟩ := hv i j h
    rcases hi with rfl | rfl | rfl | rfl
    · exact ⟨h1.1, h1.2.1, fun d hd => by rw [if_neg (h30 d)]; exact h1.2.2 d hd⟩
    · exact ⟨h2.1, h2.2.1, fun d hd => (h2.2.2 d hd).trans (hn 14 d (by decide)).symm⟩
    · exact ⟨h3.1, h3.2.1, fun d hd => (h3.2.2 d hd).trans (hn 15 d (by decide)).symm⟩
    · refine ⟨hc.1, hc.2.1, ⟨?_, ?_, ?_, ?_, ?_, ?_⟩, ?_⟩
      · exact (hc.2.2.1 1).trans (hs 2 (by decide)).symm
      · exact (hc.2.2.1 2).trans (hs 9 (by decide)).symm
      · exact (hc.2.2.1 3).trans (hs 8 (by decide)).symm
      · exact (hc.2.2.1 4).trans (hs 1 (by decide)).symm
      · exact (hc.2.2.1 8).trans (hs 17 (by decide)).symm
      · exact (hc.2.2.1 9).trans (hs 18 (by decide)).symm
      · rw [if_pos hs16]
        exact hc.2.2.2
  · obtain ⟨hi, rfl⟩ := hv i j g1
    obtain ⟨hi', rfl⟩ := hv i' j' g2
    have k1 : ∀ x y : Nat, zk M x ≠ zk M y → x ≠ y := fun x y h e => h (e ▸ rfl)
    have n12 : a1 ≠ a2 := k1 _ _ (by rw [h1.1, h2.1]; decide)
    have n13 : a1 ≠ a3 := k1 _ _ (by rw [h1.1, h3.1]; decide)
    have n1c : a1 ≠ c := k1 _ _ (by rw [h1.1, hc.1]; decide)
    have n2c : a2 ≠ c := k1 _ _ (by rw [h2.1, hc.1]; decide)
    have n3c : a3 ≠ c := k1 _ _ (by rw [h3.1, hc.1]; decide)
    refine ⟨?_, rfl⟩
    rcases hi with rfl | rfl | rfl | rfl <;> rcases hi' with rfl | rfl | rfl | rfl <;> first | rfl | exact absurd e n12 | exact absurd e n13 | exact absurd e n1c | exact absurd e n12.symm | exact absurd e h23 | exact absurd e n2c | exact absurd e n13.symm | exact absurd e h23.symm | exact absurd e n3c | exact absurd e n1c.symm | exact absurd e n2c.symm | exact absurd e n3c.symm

