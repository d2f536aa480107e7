/-! the reference: loads, moves -/
/-- what is not there has no fragments -/
def zDz (A : ZA) : Prop := ∀ f, f < 96 → ¬ A.2 10 f = 0 → A.2 3 (f / 8) = 1
/-- the load of the server s in the first k places -/
def zlS (A : ZA) (s : Int32) : Nat → Int32
  | 0 => nI 0
  | k + 1 => zlS A s k + (if ¬ A.2 10 k ≤ 0 ∧ zsv A k = s then A.2 12 k else nI 0)
theorem zle0 {v : Int32} (h : ¬ v ≤ 0) : ¬ v = 0 := fun e => h (by rw [e]; exact Int32.le_refl 0)
/-- a move of the fragment f to s begins -/
def zMo (A : ZA) (f s : Int32) : ZA := zsc (zsc (zsc A 16 f) 17 s) 18 (nI 0)
/-- alike but for leases -/
def zSme (A B : ZA) : Prop := B.1 = A.1 ∧ ∀ i, i ≠ 13 → i ≠ 14 → B.2 i = A.2 i
theorem zSme.rf {A : ZA} : zSme A A := ⟨rfl, fun _ _ _ => rfl⟩
theorem zSme.tr {A B C : ZA} (h : zSme A B) (g : zSme B C) : zSme A C := ⟨g.1.trans h.1, fun i h1 h2 => (g.2 i h1 h2).trans (h.2 i h1 h2)⟩
theorem zSme.en (A : ZA) (a : Nat) (ex : Int32) (k : Nat) : zSme A (zEn A a ex k) := ⟨zEn_1 A a ex k, fun _ h1 h2 => zEn_2 A a ex h1 h2 k⟩
theorem zSme.fn {A B : ZA} (h : zSme A B) (d n : Nat) : zfn B d n = zfn A d n := by unfold zfn; rw [h.2 10 (by decide) (by decide)]
theorem zSme.par {A B : ZA} (h : zSme A B) (d : Nat) : zpar B d = zpar A d := by unfold zpar; rw [h.2 4 (by decide) (by decide)]
theorem zSme.nam {A B : ZA} (h : zSme A B) (d : Nat) : znam B d = znam A d := by unfold znam; rw [h.2 5 (by decide) (by decide)]
theorem zSme.inh {A B : ZA} (h : zSme A B) (f : Nat) : zinh B f = zinh A f := by unfold zinh; rw [h.fn, h.par, h.nam]
theorem zSme.fz {A B : ZA} (h : zSme A B) : ∀ (k f : Nat), zfzN B k f = zfzN A k f
  | 0, _ => rfl
  | k + 1, f => by
    rw [zfzN, zfzN, h.1, h.2 11 (by decide) (by decide), h.inh, h.fz k]
theorem zSme.up {A B : ZA} (h : zSme A B) (d : Nat) : zUp B d ↔ zUp A d := by
  unfold zUp
  rw [h.par, h.nam, h.2 3 (by decide) (by decide), h.2 4 (by decide) (by decide), h.2 5 (by decide) (by decide)]
theorem zSme.dp {A B : ZA} (h : zSme A B) : ∀ (k d : Nat), zDp B k d ↔ zDp A k d
  | 0, _ => Iff.rfl
  | k + 1, d => by
    rw [zDp, zDp, h.up, h.par, h.dp k]
theorem zSme.fr {A B : ZA} (h : zSme A B) (g : zFr A) : zFr B := by
  unfold zFr
  rw [h.2 3 (by decide) (by decide), h.2 10 (by decide) (by decide), h.2 11 (by decide) (by decide)]
  exact g
theorem zSme.wf {A B : ZA} (h : zSme A B) (g : zWf A) : zWf B := by
  refine ⟨?_, h.fr g.2.1, fun d h1 h2 => ?_⟩
  · obtain ⟨D, g1⟩ := g.1
    refine ⟨D, ?_⟩
    unfold zBas
    rw [h.1, h.2 3 (by decide) (by decide)]
    exact g1
  · rw [h.2 3 (by decide) (by decide)] at h2
    exact (h.dp 11 d).mpr (g.2.2 d h1 h2)
/-- all leases on frozen names are recalled: the first k places -/
def zRc (A : ZA) : Nat → ZA
  | 0 => A
  | k + 1 => if A.2 3 (k / 50) = 1 ∧ zfz A (zfn A (k / 50) (k % 50)) = true then zEn (zRc A k) k (-1) 4 else zRc A k
theorem zRc_sme (A : ZA) : ∀ k, zSme A (zRc A k)
  | 0 => zSme.rf
  | k + 1 => by
    unfold zRc
    split
    · exact (zRc_sme A k).tr (zSme.en _ _ _ _)
    · exact zRc_sme A k
