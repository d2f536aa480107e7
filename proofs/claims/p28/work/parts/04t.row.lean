section ZROW3
variable {t : ZY} {tb : List ExceptionTableEntry} {E : ZE} {G : ZG} {u : Nat} {Q : State → Prop} {M : ZM} {b pc : Nat} {L : List (Option Value)} {S : List Value} {P P' : ZO → ZM → Prop}
/-! throw new X("text") -/
def zNm : List String := ["java/lang/RuntimeException", "java/lang/Exception"]
/-- the words of a throw of X by the constructor's number ic: in the tables, or the one that says X of X -/
def zTh (own : String) (ik ic : Nat) (X : String) : Prop := X ∈ zExc ∧ Cond.classLink own ik X ∈ zTs ∧ Cond.initialized X ∈ zTs ∧ (∀ w ∈ vx_atS own ic X zNm, w ∈ zTs ∨ w = .castable X X ∨ ∃ F ∈ zDecl, w = .declares ⟨F, "<init>", "(Ljava/lang/String;)V"⟩) ∧ Bundle.fit X = true ∧ (∀ w ∈ Cond.classLink own ik X :: Cond.initialized X :: vx_atS own ic X zNm, vx_ot w = true)
theorem zq_throw (K : zOK t [] G E) {ik is ic : Nat} {X text : String} (hT : zTh (zyn t).cls ik ic X) (hx : ((zyn t).cls, is, text) ∈ zTx) (d0 : decode (zyc t) pc = .ok (.new ik, 3)) (d3 : decode (zyc t) (pc + 3) = .ok (.dup, 1)) (d4 : decode (zyc t) (pc + 4) = .ok (.ldc is, 2)) (d6 : decode (zyc t) (pc + 6) = .ok (.invokespecial ic, 3)) (d9 : decode (zyc t) (pc + 9) = .ok (.athrow, 1)) (hh : 6 ≤ zyh t) (hS : (S.map fun v => v.category).sum ≤ 8) (hb : 1 ≤ b) (h : P (.inr X) M) : WW E G (zyu t) (zQ E G t P) M b pc L S := by
  obtain ⟨p, e, R, s, m, args, below, meth, c⟩ := E
  obtain ⟨k1, k2, k3, k4, k5, k6, k7, k8, k9, k10, k11, k12, k13, k14, k15⟩ := K
  obtain ⟨t1, t2, t3, t4, t5, t6⟩ := hT
  intro H locs ls cells slots h1 h2 h3 h4 h5 h6
  obtain ⟨sa, hsa⟩ := k8.2.2.2.1 _ hx
  have hB : ∀ q : Nat, q < s.heap.size → ¬ zfr G q → H[q]? = s.heap[q]? := fun q _ hq => by
    have hq' : q < G.2.2.2.size := Nat.not_le.mp hq
    rw [h1.2.1 q hq', k9.2 q hq']
  have hk : ∀ q : Nat, q < G.2.2.2.size → ¬ zfr G q → s.heap[q]? = G.2.2.2[q]? := fun q h _ => k9.2 q h
  refine vx_throwS (A := zfr G) (names := zNm) (sa := sa) k1 k2 k8.2.2.2.2.2.2.2.2.2.1 k5 t5 (by decide +kernel) (k7 _ t2) (k7 _ t3) hsa (fun w hw => ?_) t6 (k8.2.1.kept hk) (k8.2.2.1.kept hk) ⟨h2, hB, h3⟩ h4.1 d0 d3 d4 d6 d9 (fun x hx => by rw [k10] at hx; cases hx) (by show 5 < _; omega) (by show _ + (13 * 3 + 43) ≤ _; omega) (by omega) (by omega) k6 (fun z _ hz ho => ⟨M, h, h1.grow hz ho, by omega⟩) h3 (by omega) (by omega)
  rcases t4 w hw with h | h | ⟨F, hF, h⟩
  · exact k7 _ h
  · rw [h]
    exact (k8.2.2.2.2.1 X t1).use rfl
  · rw [h]
    exact (k8.2.2.2.2.2.2.2.2.2.2.1 F hF).use rfl
/-! a new object -/
theorem zq_new (K : zOK t tb G E) {idx ci N : Nat} {C : String} {T : u_T} {ty : Nat → FieldType} (hd : decode (zyc t) pc = .ok (.new idx, 3)) (hC : zcl ci C T N ty) (hl : Cond.classLink (zyn t).cls idx C ∈ zTs) (hty : ∀ k, k < N → defaultValue (ty k) = if zfi ci k = true then .int 0 else .null) (hN : N ≤ 64) (hb : 1 ≤ b) (hu : u ≤ zyu t) (kk : ∀ a, zk M a = 0 → WW E G u Q (zw M a (ci + 1) 0) (b - 1) (pc + 3) L (.ref a :: S)) : WW E G u Q M b pc L S := by
  obtain ⟨p, e, R, s, m, args, below, meth, c⟩ := E
  obtain ⟨k1, k2, k3, k4, k5, k6, k7, k8, k9, k10, k11, k12, k13, k14, k15⟩ := K
  intro H locs ls cells slots h1 h2 h3 h4 h5 h6
  have hKn := k8.1.1 ci _ hC.1
  refine W.newcK k1 k2 k5 (k7 _ hl) (k7 _ hC.2.2.2.2.2.2.1) (k7 _ hC.2.2.2.2.2.2.2) rfl hd (by omega) (by omega) hKn.2.1 rfl fun H1 kC hkC e1 z1 o1 => ?_
  refine W.widen (k := cells + 1) (n := slots + 64) (by omega) (by omega) ?_
  refine kk H.size (h1.fresh (Nat.le_refl _)) H1 locs ls (cells + 1) (slots + 64) (h1.new z1 rfl o1 ?_) (by omega) h3 h4 (by omega) (by omega)
  rw [zE_o (ci := ci) (by rw [zk_w, if_pos rfl]) hC.2.1, hC.2.2.1]
  refine ⟨_, hC.1, (u_born ty k7 hC.2.2.2.1 hKn hkC e1 hC.2.2.2.2.1).to (fun j hj => ?_)⟩
  show defaultValue (ty j) = vp_V _ j
  unfold vp_V
  rw [List.getD_eq_getElem?_getD, zfs_get hj, hty j hj, Option.getD_some]
  unfold zfv
  rw [zi_w, if_pos rfl, zr_w, if_pos rfl]
  rfl
/-! new rows of numbers -/
theorem zty_name {c0 : Nat → ClassId} {s : State} {D : va_G} {j : Nat} {ty : FieldType} (h : va_K D vwCl (zTy c0) s) (hj : (zTy c0)[j]? = some (c0 j, ty)) (ho : ∀ C, ty ≠ .object C) : s.vm.findClass ("[" ++ ty.toString) = some (c0 j) := by
  have h1 := (h.2 j _ hj).2
  cases ty <;> first | exact h1 | exact absurd rfl (ho _)
theorem zq_newarr (K : zOK t tb G E) {atype : ArrayType} {ty : FieldType} {x : Int32} (j n : Nat) (hd : decode (zyc t) pc = .ok (.newarray atype, 2)) (hty : newarray.typeOf atype = ty) (hj : (zTy G.2.2.1)[j]? = some (G.2.2.1 j, ty)) (h3j : j < 3) (ho : ∀ C, ty ≠ .object C) (hw : Cond.arrayClass ty ∈ zTs) (hx : x = nI n) (hn : n ≤ 65536) (hdv : ∀ (c0 : ClassId) (M : ZM) (a : Nat), vp_cell c0 (zct (zw M a (j + 5) n) a (j + 5)) = arrV c0 n (fun _ => defaultValue ty)) (k : Nat) (hb : 1 ≤ k ∧ n ≤ 64 * k ∧ k ≤ b) (hu : u ≤ zyu t) (hcb : componentBytes ty ≤ 8) (kk : ∀ a, zk M a = 0 → WW E G u Q (zw M a (j + 5) n) (b - k) (pc + 2) L (.ref a :: S)) : WW E G u Q M b pc L (.int x :: S) := by
  subst hx; subst hty
  obtain ⟨p, e, R, s, m, args, below, meth, c⟩ := E
  obtain ⟨k1, k2, k3, k4, k5, k6, k7, k8, k9, k10, k11, k12, k13, k14, k15⟩ := K
  intro H locs ls cells slots h1 h2 h3 h4 h5 h6
  have e0 : (nI n).toNatClampNeg = n := nI_clamp (by omega)
  refine va_newaK k1 k2 (k7 _ hw) rfl hd rfl (nI_pos (by omega)) e0 (by have := Nat.mul_le_mul hn hcb; omega) (by omega) (by omega) rfl fun H1 cA e1 z1 o1 hAr hNm => ?_
  have hcA : cA = G.2.2.1 j := Option.some.inj (hNm.symm.trans (zty_name k8.1 hj ho))
  subst hcA
  refine W.widen (k := cells + k) (n := slots + 64 * k) (by omega) (by omega) ?_
  refine kk H.size (h1.fresh (Nat.le_refl _)) H1 locs ls (cells + k) (slots + 64 * k) (h1.new z1 rfl o1 ?_) (by omega) h3 h4 (by omega) (by omega)
  rw [zE_a (k := j + 5) (by rw [zk_w, if_pos rfl]) (by omega)]
  show H1[H.size]? = some (vp_cell _ _)
  rw [hdv, Nat.add_sub_cancel]
  exact e1
/-! a new row of objects -/
theorem zq_anew (K : zOK t tb G E) {idx : Nat} {C : String} {x : Int32} (j n : Nat) (hd : decode (zyc t) pc = .ok (.anewarray idx, 3)) (hj : (zTy G.2.2.1)[j]? = some (G.2.2.1 j, .object C)) (h3j : 3 ≤ j) (hao : ∀ s, zSt G s → va_AO C s) (hl : Cond.classLink (zyn t).cls idx C ∈ zTs) (hx : x = nI n) (hn : n ≤ 64) (hb : 1 ≤ b) (hu : u ≤ zyu t) (kk : ∀ a, zk M a = 0 → WW E G u Q (zw M a (j + 5) n) (b - 1) (pc + 3) L (.ref a :: S)) : WW E G u Q M b pc L (.int x :: S) := by
  subst hx
  obtain ⟨p, e, R, s, m, args, below, meth, c⟩ := E
  obtain ⟨k1, k2, k3, k4, k5, k6, k7, k8, k9, k10, k11, k12, k13, k14, k15⟩ := K
  intro H locs ls cells slots h1 h2 h3 h4 h5 h6
  have e0 : (nI n).toNatClampNeg = n := nI_clamp (by omega)
  refine W.anew k1 k2 k5 (k7 _ hl) (va_AO.use (hao s k8)) rfl hd rfl (nI_pos (by omega)) (by omega) (by omega) (by omega) fun cA kA comp f1 f2 f3 f4 => ?_
  obtain ⟨kA2, comp2, g1, g2, g3, g4⟩ := (k8.1.2 j _ hj).2
  have hcA : cA = G.2.2.1 j := Option.some.inj (f1.symm.trans g4)
  subst hcA
  rw [e0]
  generalize hH1 : H.push ({ cls := G.2.2.1 j, slots := Array.replicate n .null, vm := .none } : Cell) = H1
  have z1 : H1.size = H.size + 1 := by rw [← hH1, Array.size_push]
  have e1 : H1[H.size]? = some (arrV (G.2.2.1 j) n (fun _ => .null)) := by rw [← hH1, Array.getElem?_push_size, ← arrV_new]
  have o1 : ∀ q : Nat, q < H.size → H1[q]? = H[q]? := fun q hq => by rw [← hH1, Array.getElem?_push, if_neg (Nat.ne_of_lt hq)]
  refine W.widen (k := cells + 1) (n := slots + 64) (by omega) (by omega) ?_
  refine kk H.size (h1.fresh (Nat.le_refl _)) H1 locs ls (cells + 1) (slots + 64) (h1.new z1 rfl o1 ?_) (by omega) h3 h4 (by omega) (by omega)
  rw [zE_a (k := j + 5) (by rw [zk_w, if_pos rfl]) (by omega)]
  show H1[H.size]? = some (vp_cell _ _)
  rw [zct_r (by omega), Nat.add_sub_cancel, zn_w, if_pos rfl, e1]
  congr 2
  funext q
  rw [zr_w, if_pos rfl]
  rfl
/-- the memory with new int[4][k] at q, its rows at r -/
def zmn (M : ZM) (q : Nat) (r : Nat → Nat) (k : Nat) : ZM := zsr (zsr (zsr (zsr (zw (zw (zw (zw (zw M q 10 4) (r 0) 5 k) (r 1) 5 k) (r 2) 5 k) (r 3) 5 k) q 0 (some (r 0))) q 1 (some (r 1))) q 2 (some (r 2))) q 3 (some (r 3))
end ZROW3
