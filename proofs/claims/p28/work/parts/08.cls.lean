/-! the class's objects: the object itself, its rows, directories and fragments, at the addresses W -/
def zVal (B : ZA) (i j : Nat) : Prop := match i with
  | 3 => j < 12 ∧ B.2 3 j = 1
  | 4 => j < 12 ∧ B.2 3 j = 1
  | 5 => j < 12 ∧ B.2 3 j = 1
  | 6 => j < 12 ∧ B.2 3 j = 1
  | 7 => j < 48 ∧ B.2 3 (j / 4) = 1
  | 8 => j < 12 ∧ B.2 3 j = 1
  | 9 => j < 96 ∧ B.2 3 (j / 8) = 1 ∧ ¬ B.2 10 j = 0
  | i => i < 11 ∧ j = 0
def zOb (M : ZM) (W : Nat → Nat → Nat) (B : ZA) (i j : Nat) : Prop := match i with
  | 0 => zk M (W 0 j) = 8 ∧ zn M (W 0 j) = 12 ∧ ∀ d, d < 12 → zr M (W 0 j) d = if B.2 3 d = 1 then some (W 3 d) else none
  | 1 => zk M (W 1 j) = 5 ∧ zn M (W 1 j) = 4 ∧ ∀ c, c < 4 → zi M (W 1 j) c = B.2 14 c
  | 2 => zk M (W 2 j) = 5 ∧ zn M (W 2 j) = 4 ∧ ∀ c, c < 4 → zi M (W 2 j) c = B.2 15 c
  | 3 => zk M (W 3 j) = 1 ∧ zi M (W 3 j) 0 = nI j ∧ (zr M (W 3 j) 1 = if j = 0 then none else some (W 3 (zpar B j))) ∧ zi M (W 3 j) 2 = B.2 5 j ∧ zr M (W 3 j) 3 = some (W 4 j) ∧ zr M (W 3 j) 4 = some (W 5 j) ∧ zr M (W 3 j) 5 = some (W 6 j) ∧ zr M (W 3 j) 6 = some (W 8 j)
  | 4 => zk M (W 4 j) = 5 ∧ zn M (W 4 j) = 50 ∧ ∀ n, n < 50 → zi M (W 4 j) n = B.2 6 (50 * j + n)
  | 5 => zk M (W 5 j) = 5 ∧ zn M (W 5 j) = 50 ∧ ∀ n, n < 50 → zi M (W 5 j) n = B.2 7 (50 * j + n)
  | 6 => zk M (W 6 j) = 10 ∧ zn M (W 6 j) = 4 ∧ ∀ c, c < 4 → zr M (W 6 j) c = some (W 7 (4 * j + c))
  | 7 => zk M (W 7 j) = 5 ∧ zn M (W 7 j) = 50 ∧ ∀ n, n < 50 → zi M (W 7 j) n = B.2 13 (600 * (j % 4) + (50 * (j / 4) + n))
  | 8 => zk M (W 8 j) = 9 ∧ zn M (W 8 j) = 8 ∧ ∀ h, h < 8 → zr M (W 8 j) h = some (W 9 (8 * j + zfg (B.2 10) j h))
  | 9 => zk M (W 9 j) = 2 ∧ zi M (W 9 j) 0 = nI (j / 8) ∧ zi M (W 9 j) 1 = nI (j % 8) ∧ zi M (W 9 j) 2 = B.2 10 j ∧ zi M (W 9 j) 3 = B.2 11 j ∧ zi M (W 9 j) 4 = B.2 12 j
  | _ => zk M (W 10 j) = 3 ∧ (zr M (W 10 j) 0 = some (W 0 0) ∧ zr M (W 10 j) 5 = some (W 1 0) ∧ zr M (W 10 j) 6 = some (W 2 0)) ∧ (zi M (W 10 j) 1 = B.1 2 ∧ zi M (W 10 j) 2 = B.1 9 ∧ zi M (W 10 j) 3 = B.1 8 ∧ zi M (W 10 j) 4 = B.1 1 ∧ zi M (W 10 j) 8 = B.1 17 ∧ zi M (W 10 j) 9 = B.1 18) ∧ (zr M (W 10 j) 7 = if B.1 16 = -1 then none else some (W 9 (B.1 16).toNatClampNeg))
def zC (M : ZM) (W : Nat → Nat → Nat) (B : ZA) : Prop := (∀ i j, zVal B i j → zOb M W B i j) ∧ ∀ i j i' j', zVal B i j → zVal B i' j' → W i j = W i' j' → i = i' ∧ j = j'
section ZCLS
variable {M M' M0 : ZM} {W : Nat → Nat → Nat} {B B' B0 : ZA}
theorem zVal.lt {i j : Nat} (h : zVal B i j) : i < 11 := by
  unfold zVal at h
  split at h
  all_goals first | omega | exact h.1
theorem zOb.same : ∀ {i j : Nat}, zVal B i j → zsame M M' (W i j) → zOb M W B i j → zOb M' W B i j
  | 0, j, _, ⟨s1, s2, s3, s4, _⟩, h => ⟨s1.trans h.1, s2.trans h.2.1, fun d hd => (s4 d).trans (h.2.2 d hd)⟩
  | 1, j, _, ⟨s1, s2, s3, s4, _⟩, h => ⟨s1.trans h.1, s2.trans h.2.1, fun d hd => (s3 d).trans (h.2.2 d hd)⟩
  | 2, j, _, ⟨s1, s2, s3, s4, _⟩, h => ⟨s1.trans h.1, s2.trans h.2.1, fun d hd => (s3 d).trans (h.2.2 d hd)⟩
  | 3, j, _, ⟨s1, s2, s3, s4, _⟩, h => ⟨s1.trans h.1, (s3 _).trans h.2.1, (s4 _).trans h.2.2.1, (s3 _).trans h.2.2.2.1, (s4 _).trans h.2.2.2.2.1, (s4 _).trans h.2.2.2.2.2.1, (s4 _).trans h.2.2.2.2.2.2.1, (s4 _).trans h.2.2.2.2.2.2.2⟩
  | 4, j, _, ⟨s1, s2, s3, s4, _⟩, h => ⟨s1.trans h.1, s2.trans h.2.1, fun d hd => (s3 d).trans (h.2.2 d hd)⟩
  | 5, j, _, ⟨s1, s2, s3, s4, _⟩, h => ⟨s1.trans h.1, s2.trans h.2.1, fun d hd => (s3 d).trans (h.2.2 d hd)⟩
  | 6, j, _, ⟨s1, s2, s3, s4, _⟩, h => ⟨s1.trans h.1, s2.trans h.2.1, fun d hd => (s4 d).trans (h.2.2 d hd)⟩
  | 7, j, _, ⟨s1, s2, s3, s4, _⟩, h => ⟨s1.trans h.1, s2.trans h.2.1, fun d hd => (s3 d).trans (h.2.2 d hd)⟩
  | 8, j, _, ⟨s1, s2, s3, s4, _⟩, h => ⟨s1.trans h.1, s2.trans h.2.1, fun d hd => (s4 d).trans (h.2.2 d hd)⟩
  | 9, j, _, ⟨s1, s2, s3, s4, _⟩, h => ⟨s1.trans h.1, (s3 _).trans h.2.1, (s3 _).trans h.2.2.1, (s3 _).trans h.2.2.2.1, (s3 _).trans h.2.2.2.2.1, (s3 _).trans h.2.2.2.2.2⟩
  | 10, j, _, ⟨s1, s2, s3, s4, _⟩, h => ⟨s1.trans h.1, ⟨(s4 _).trans h.2.1.1, (s4 _).trans h.2.1.2.1, (s4 _).trans h.2.1.2.2⟩, ⟨(s3 _).trans h.2.2.1.1, (s3 _).trans h.2.2.1.2.1, (s3 _).trans h.2.2.1.2.2.1, (s3 _).trans h.2.2.1.2.2.2.1, (s3 _).trans h.2.2.1.2.2.2.2.1, (s3 _).trans h.2.2.1.2.2.2.2.2⟩, (s4 _).trans h.2.2.2⟩
  | i + 11, j, hv, _, _ => absurd hv.lt (by omega)
theorem zC.upd (h : zC M W B) (i0 j0 : Nat) (hv0 : zVal B i0 j0) (hsm : ∀ a, a ≠ W i0 j0 → zsame M M' a) (hval : ∀ i j, zVal B' i j → zVal B i j) (ho : ∀ i j, ¬ (i = i0 ∧ j = j0) → zVal B i j → zOb M W B i j → zOb M W B' i j) (h0 : zOb M W B i0 j0 → zOb M' W B' i0 j0) : zC M' W B' := by
  refine ⟨fun i j hv => ?_, fun i j i' j' h1 h2 => h.2 i j i' j' (hval i j h1) (hval i' j' h2)⟩
  have hv' := hval i j hv
  by_cases e : i = i0 ∧ j = j0
  · obtain ⟨rfl, rfl⟩ := e
    exact h0 (h.1 i j hv')
  · exact zOb.same hv (hsm _ (fun z => e (h.2 i j i0 j0 hv' hv0 z))) (ho i j e hv' (h.1 i j hv'))
/-- nothing else changes -/
def zFm (M : ZM) (W : Nat → Nat → Nat) (B : ZA) (M' : ZM) : Prop := ∀ a, ¬ zk M a = 0 → (∀ i j, zVal B i j → a ≠ W i j) → zsame M M' a
theorem zFm.rf : zFm M W B M := fun _ _ _ => zsame.rf
theorem zFm.one (h : zFm M0 W B0 M) {i j : Nat} (hv : zVal B0 i j) (hsm : ∀ a, a ≠ W i j → zsame M M' a) : zFm M0 W B0 M' := fun a h1 h2 => (h a h1 h2).tr (hsm a (h2 i j hv))
theorem zFm.tr (h : zFm M0 W B0 M) (g : zFm M W B M') (hv : ∀ i j, zVal B i j → zVal B0 i j) : zFm M0 W B0 M' := fun a h1 h2 => (h a h1 h2).tr (g a (by rw [(h a h1 h2).1]; exact h1) (fun i j z => h2 i j (hv i j z)))
end ZCLS
