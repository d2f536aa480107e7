/-! the two states side by side -/
theorem zMetC.mono {G : ZG} {cd : Cond} {t : ZY} {As : List Value} {M : ZM} {P P' : ZO → ZM → Prop} (h : ∀ o M', P o M' → P' o M') (hM : zMetC G cd t As M P) : zMetC G cd t As M P' := by
  intro p e h1 h2 h3 s m args below h4 h5 h6 h7
  obtain ⟨n, o, a1, a2, a3, a4⟩ := hM p e h1 h2 h3 s m args below h4 h5 h6 h7
  refine ⟨n, o, a1, a2, a3, ?_⟩
  rcases a4 with ⟨⟨v, M', b1, b2, b3, b4⟩, b5⟩ | ⟨q, c1, E, ce, L, ⟨M', d1, d2, d3⟩, d4⟩
  · exact Or.inl ⟨⟨v, M', b1, h _ _ b2, b3, b4⟩, b5⟩
  · exact Or.inr ⟨q, c1, E, ce, L, ⟨M', h _ _ d1, d2, d3⟩, d4⟩
section ZSA
variable {A B C : ZA}
/-- the states of both: alike but in ages and ends of leases -/
def zAg (A B : ZA) : Prop := B.1 = A.1 ∧ ∀ i, i ≠ 7 → i ≠ 13 → B.2 i = A.2 i
theorem zAg.k (h : zAg A B) (i : Nat) (hi : i ≠ 7 ∧ i ≠ 13) : B.2 i = A.2 i := h.2 i hi.1 hi.2
theorem zAg.fn (h : zAg A B) (d n : Nat) : zfn B d n = zfn A d n := by unfold zfn; rw [h.k 10 (by decide)]
theorem zAg.par (h : zAg A B) (d : Nat) : zpar B d = zpar A d := by unfold zpar; rw [h.k 4 (by decide)]
theorem zAg.nam (h : zAg A B) (d : Nat) : znam B d = znam A d := by unfold znam; rw [h.k 5 (by decide)]
theorem zAg.inh (h : zAg A B) (f : Nat) : zinh B f = zinh A f := by unfold zinh; rw [h.fn, h.par, h.nam]
theorem zAg.fzN (h : zAg A B) : ∀ (k f : Nat), zfzN B k f = zfzN A k f
  | 0, _ => rfl
  | k + 1, f => by
    rw [zfzN, zfzN, h.1, h.k 11 (by decide), h.inh, h.fzN k]
theorem zAg.fz (h : zAg A B) (f : Nat) : zfz B f = zfz A f := h.fzN 12 f
theorem zAg.svN (h : zAg A B) : ∀ (k f : Nat), zsvN B k f = zsvN A k f
  | 0, _ => rfl
  | k + 1, f => by
    rw [zsvN, zsvN, h.k 11 (by decide), h.inh, h.svN k]
theorem zAg.sv (h : zAg A B) (f : Nat) : zsv B f = zsv A f := h.svN 12 f
theorem zAg.up (h : zAg A B) (d : Nat) : zUp B d ↔ zUp A d := by
  unfold zUp
  rw [h.par, h.nam, h.k 3 (by decide), h.k 4 (by decide), h.k 5 (by decide)]
theorem zAg.dp (h : zAg A B) : ∀ (k d : Nat), zDp B k d ↔ zDp A k d
  | 0, _ => Iff.rfl
  | k + 1, d => by
    rw [zDp, zDp, h.up, h.par, h.dp k]
theorem zAg.fr (h : zAg A B) (g : zFr A) : zFr B := by
  unfold zFr
  rw [h.k 3 (by decide), h.k 10 (by decide), h.k 11 (by decide)]
  exact g
theorem zAg.wf (h : zAg A B) (g : zWf A) : zWf B := by
  refine ⟨?_, h.fr g.2.1, fun d h1 h2 => ?_⟩
  · obtain ⟨D, g1⟩ := g.1
    refine ⟨D, ?_⟩
    unfold zBas
    rw [h.1, h.k 3 (by decide)]
    exact g1
  · rw [h.k 3 (by decide)] at h2
    exact (h.dp 11 d).mpr (g.2.2 d h1 h2)
theorem zAg.bz (h : zAg A B) (d n : Nat) : zBz B d n ↔ zBz A d n := by
  unfold zBz
  rw [h.k 6 (by decide), h.fn, h.fz]
theorem zAg.isD (h : zAg A B) (d : Int32) : zIsD B d ↔ zIsD A d := by
  unfold zIsD
  rw [h.k 3 (by decide)]
theorem zAg.bad (h : zAg A B) {c d n : Int32} {k : Nat} (g : zBad A c d n k) : zBad B c d n k := by
  unfold zBad
  rw [h.isD]
  exact g
theorem zAg.bh (h : zAg A B) {l : Nat} {d n : Int32} {k : Nat} (g : zBh A l d n k) : zBh B l d n k := by
  unfold zBh
  rw [h.isD]
  exact g
theorem zAg.pu (h : zAg A B) (d : Nat) : zpu B d = zpu A d := by
  unfold zpu
  rw [h.k 6 (by decide)]
theorem zAg.hd (h : zAg A B) (d : Nat) : zHd B d ↔ zHd A d := by
  unfold zHd
  rw [h.pu, h.1]
theorem zAg.bl (h : zAg A B) : ∀ (k d e : Nat), zblN B k d e = zblN A k d e
  | 0, _, _ => rfl
  | k + 1, d, e => by
    rw [zblN, zblN, h.par, h.bl k]
theorem zAg.val (h : zAg A B) {i j : Nat} : zVal B i j ↔ zVal A i j := zVal.cg (h.k 3 (by decide)) (h.k 10 (by decide))
theorem zAg.of (h1 : B.1 = A.1) (h : ∀ i, i ≠ 7 → i ≠ 13 → ∀ j, B.2 i j = A.2 i j) : zAg A B := ⟨h1, fun i h2 h3 => funext (h i h2 h3)⟩
theorem zAg.rf : zAg A A := ⟨rfl, fun _ _ _ => rfl⟩
theorem zAg.tr (h : zAg A B) (g : zAg B C) : zAg A C := ⟨g.1.trans h.1, fun i h1 h2 => (g.2 i h1 h2).trans (h.2 i h1 h2)⟩
theorem zAg.sy (h : zAg A B) : zAg B A := ⟨h.1.symm, fun i h1 h2 => (h.2 i h1 h2).symm⟩
theorem zAg.sc (h : zAg A B) (k : Nat) (v : Int32) : zAg (zsc A k v) (zsc B k v) := ⟨by unfold zsc; rw [h.1], h.2⟩
theorem zAg.sa (h : zAg A B) (k j : Nat) (v : Int32) : zAg (zsa A k j v) (zsa B k j v) := zAg.of h.1 (fun i h1 h2 x => by rw [zsa_2, zsa_2, h.2 i h1 h2])
theorem zAg.r7 (h : zAg A B) (j : Nat) (v : Int32) : zAg A (zsa B 7 j v) := ⟨h.1, fun i h1 h2 => by rw [zsa_n _ _ _ _ _ h1]; exact h.2 i h1 h2⟩
theorem zAg.r13 (h : zAg A B) (j : Nat) (v : Int32) : zAg A (zsa B 13 j v) := ⟨h.1, fun i h1 h2 => by rw [zsa_n _ _ _ _ _ h2]; exact h.2 i h1 h2⟩
theorem zAg.l7 (h : zAg A B) (j : Nat) (v : Int32) : zAg (zsa A 7 j v) B := (h.sy.r7 j v).sy
theorem zAg.l13 (h : zAg A B) (j : Nat) (v : Int32) : zAg (zsa A 13 j v) B := (h.sy.r13 j v).sy
/-! updates commute -/
theorem zsa_cm (A : ZA) {i i' : Nat} (hi : i ≠ i') (j j' : Nat) (v v' : Int32) : zsa (zsa A i j v) i' j' v' = zsa (zsa A i' j' v') i j v := by
  refine Prod.ext rfl (funext fun k => funext fun x => ?_)
  rw [zsa_2, zsa_2, zsa_2, zsa_2]
  by_cases h1 : k = i' ∧ x = j'
  · rw [if_pos h1, if_neg (fun h2 => hi (h2.1.symm.trans h1.1)), if_pos h1]
  · rw [if_neg h1, if_neg h1]
theorem zsa_sc (A : ZA) (k i j : Nat) (v w : Int32) : zsa (zsc A k v) i j w = zsc (zsa A i j w) k v := rfl
theorem zsc_cm (A : ZA) {i i' : Nat} (hi : i ≠ i') (v v' : Int32) : zsc (zsc A i v) i' v' = zsc (zsc A i' v') i v := by
  refine Prod.ext (funext fun k => ?_) rfl
  rw [zsc_1, zsc_1, zsc_1, zsc_1]
  by_cases h1 : k = i'
  · rw [if_pos h1, if_neg (fun h2 => hi (h2.symm.trans h1)), if_pos h1]
  · rw [if_neg h1, if_neg h1]
theorem zEn_sa (A : ZA) (a : Nat) (ex : Int32) {i : Nat} (h1 : i ≠ 13) (h2 : i ≠ 14) (j : Nat) (v : Int32) : ∀ k, zEn (zsa A i j v) a ex k = zsa (zEn A a ex k) i j v
  | 0 => rfl
  | k + 1 => by
    rw [zEn, zEn, zEn_sa A a ex h1 h2 j v k, zsa_n _ i j v 14 (fun e => h2 e.symm), zsa_n _ i j v 13 (fun e => h1 e.symm), zsa_1, zsa_cm _ h2, zsa_cm _ h1]
theorem zEn_sc (A : ZA) (a : Nat) (ex : Int32) {i : Nat} (h1 : i ≠ 1) (v : Int32) : ∀ k, zEn (zsc A i v) a ex k = zsc (zEn A a ex k) i v
  | 0 => rfl
  | k + 1 => by
    rw [zEn, zEn, zEn_sc A a ex h1 v k, zsa_sc, zsa_sc, zsc_2, zsc_1, if_neg (show ¬ 1 = i from fun e => h1 e.symm)]
theorem zCh_6 (A : ZA) (c : Int32) (d n j : Nat) (v : Int32) : zCh (zsa A 6 j v) c d n = zsa (zCh A c d n) 6 j v := by
  unfold zCh
  have e : zfn (zsa A 6 j v) d n = zfn A d n := by unfold zfn; rw [zsa_n _ _ _ _ _ (by decide)]
  rw [e, zsa_cm A (show (6 : Nat) ≠ 12 by decide), zEn_sa _ _ _ (by decide) (by decide), zsa_n A _ _ _ 12 (by decide)]
theorem zCh_sc (A : ZA) (c : Int32) (d n : Nat) {i : Nat} (h1 : i ≠ 1) (v : Int32) : zCh (zsc A i v) c d n = zsc (zCh A c d n) i v := by
  unfold zCh
  have e : zfn (zsc A i v) d n = zfn A d n := rfl
  rw [e, zsa_sc, zEn_sc _ _ _ h1, zsc_2]
end ZSA
