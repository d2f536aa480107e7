section ZMOD
variable {t : ZY} {tb : List ExceptionTableEntry} {E : ZE} {G : ZG} {u : Nat} {Q : State → Prop} {M M0 : ZM} {b pc : Nat} {L : List (Option Value)} {S : List Value} {P P' : ZO → ZM → Prop}
theorem zq_getRs (K : zOK t tb G E) {index ci N k : Nat} {C : String} {T : u_T} {ty : Nat → FieldType} (hd : decode (zyc t) pc = .ok (.getfield index, 3)) (hC : zcl ci C T N ty) (hk : k < N) (hw : Cond.fieldLink (zyn t).cls index (T k).1 (T k).2.1 (T k).2.2.1 ∈ zTs) (hi : zfi ci k = false) {a y : Nat} (ha : zk M a = ci + 1) (hv : zr M a k = some y) (kk : WW E G u Q M b (pc + 3) L (.ref y :: S)) : WW E G u Q M b pc L (.ref a :: S) := zq_getR K hd hC hk hw hi ha hv kk
theorem zq_getRn (K : zOK t tb G E) {index ci N k : Nat} {C : String} {T : u_T} {ty : Nat → FieldType} (hd : decode (zyc t) pc = .ok (.getfield index, 3)) (hC : zcl ci C T N ty) (hk : k < N) (hw : Cond.fieldLink (zyn t).cls index (T k).1 (T k).2.1 (T k).2.2.1 ∈ zTs) (hi : zfi ci k = false) {a : Nat} (ha : zk M a = ci + 1) (hv : zr M a k = none) (kk : WW E G u Q M b (pc + 3) L (.null :: S)) : WW E G u Q M b pc L (.ref a :: S) := zq_getR K hd hC hk hw hi ha hv kk
theorem zq_putRs (K : zOK t tb G E) {index ci N k : Nat} {C : String} {T : u_T} {ty : Nat → FieldType} (hd : decode (zyc t) pc = .ok (.putfield index, 3)) (hC : zcl ci C T N ty) (hk : k < N) (hw : Cond.fieldLink (zyn t).cls index (T k).1 (T k).2.1 (T k).2.2.1 ∈ zTs) (hfin : (T k).2.2.2 = false ∨ ((T k).1 = (zyn t).cls ∧ (zyn t).name = "<init>")) (hty : ∀ r : Option Nat, narrow (ty k) (va_rf r) = va_rf r ∧ fits (ty k) (va_rf r) = true) (hi : zfi ci k = false) {a y : Nat} (ha : zk M a = ci + 1) (kk : WW E G u Q (zsr M a k (some y)) b (pc + 3) L S) : WW E G u Q M b pc L (.ref y :: .ref a :: S) := zq_putR (r := some y) K hd hC hk hw hfin hty hi ha kk
theorem zq_putRn (K : zOK t tb G E) {index ci N k : Nat} {C : String} {T : u_T} {ty : Nat → FieldType} (hd : decode (zyc t) pc = .ok (.putfield index, 3)) (hC : zcl ci C T N ty) (hk : k < N) (hw : Cond.fieldLink (zyn t).cls index (T k).1 (T k).2.1 (T k).2.2.1 ∈ zTs) (hfin : (T k).2.2.2 = false ∨ ((T k).1 = (zyn t).cls ∧ (zyn t).name = "<init>")) (hty : ∀ r : Option Nat, narrow (ty k) (va_rf r) = va_rf r ∧ fits (ty k) (va_rf r) = true) (hi : zfi ci k = false) {a : Nat} (ha : zk M a = ci + 1) (kk : WW E G u Q (zsr M a k none) b (pc + 3) L S) : WW E G u Q M b pc L (.null :: .ref a :: S) := zq_putR (r := none) K hd hC hk hw hfin hty hi ha kk
theorem zq_aalds (K : zOK t tb G E) {a k y : Nat} {i : Int32} (j : Nat) (hd : decode (zyc t) pc = .ok (.aaload, 1)) (ha : zk M a = k) (hk : 8 ≤ k ∧ k ≤ 10) (hi : i = nI j) (hj : j < zn M a) (hn : zn M a < 2 ^ 31) (hv : zr M a j = some y) (kk : WW E G u Q M b (pc + 1) L (.ref y :: S)) : WW E G u Q M b pc L (.int i :: .ref a :: S) := zq_aald K j hd ha hk hi hj hn hv kk
theorem zq_aaldn (K : zOK t tb G E) {a k : Nat} {i : Int32} (j : Nat) (hd : decode (zyc t) pc = .ok (.aaload, 1)) (ha : zk M a = k) (hk : 8 ≤ k ∧ k ≤ 10) (hi : i = nI j) (hj : j < zn M a) (hn : zn M a < 2 ^ 31) (hv : zr M a j = none) (kk : WW E G u Q M b (pc + 1) L (.null :: S)) : WW E G u Q M b pc L (.int i :: .ref a :: S) := zq_aald K j hd ha hk hi hj hn hv kk
/-- a method that answers yes or no and changes nothing -/
def zdec (p : Prop) (M : ZM) : ZO → ZM → Prop := fun o M' => M' = M ∧ ((p ∧ o = .inl (some (.int 1))) ∨ (¬ p ∧ o = .inl (some (.int 0))))
theorem zdec_r {p : Prop} {n : Nat} (k1 : p → WW E G u Q M n (pc + 3) L (.int 1 :: S)) (k0 : ¬ p → WW E G u Q M n (pc + 3) L (.int 0 :: S)) : ∀ (v' : Option Value) (M' : ZM), zdec p M (.inl v') M' → WW E G u Q M' n (pc + 3) L (v'.toList ++ S) := by
  rintro v' M' ⟨rfl, ⟨hp, h⟩ | ⟨hp, h⟩⟩
  · cases h
    exact k1 hp
  · cases h
    exact k0 hp
theorem zdec_x {p : Prop} {n : Nat} : ∀ (En : String) (M' : ZM), zdec p M (.inr En) M' → XX E G u Q M' n pc L En := by
  rintro En M' ⟨-, ⟨-, h⟩ | ⟨-, h⟩⟩ <;> cases h
theorem zdec_1 {p : Prop} (h : p) : zdec p M (.inl (some (.int 1))) M := ⟨rfl, Or.inl ⟨h, rfl⟩⟩
theorem zdec_0 {p : Prop} (h : ¬ p) : zdec p M (.inl (some (.int 0))) M := ⟨rfl, Or.inr ⟨h, rfl⟩⟩
theorem zdec_i {p q : Prop} (h : p ↔ q) {o : ZO} {M' : ZM} (k : zdec p M o M') : zdec q M o M' := by
  rwa [show p = q from propext h] at k
/-- a choice by any proposition -/
noncomputable def zit {α : Type} (p : Prop) (a b : α) : α := @ite α p (Classical.propDecidable p) a b
theorem zit_t {α : Type} {p : Prop} {a b : α} (h : p) : zit p a b = a := if_pos h
theorem zit_f {α : Type} {p : Prop} {a b : α} (h : ¬ p) : zit p a b = b := if_neg h
/-! the reference's object: at x, its rows at q, its state A -/
abbrev ZA : Type := (Nat → Int32) × (Nat → Nat → Int32)
def zar (k : Nat) : Bool := (3 ≤ k && k ≤ 7) || (10 ≤ k && k ≤ 15)
def zln (k : Nat) : Nat := if k ≤ 5 then 12 else if k ≤ 7 then 600 else if k ≤ 12 then 96 else if k = 13 then 2400 else 4
theorem zln_lt (k : Nat) : zln k < 2 ^ 31 := by
  unfold zln
  repeat' split
  all_goals omega
/-- .. w: what it calls thrown, which A leaves out -/
def zR (M : ZM) (x : Nat) (q : Nat → Nat) (w : Int32) (A : ZA) : Prop := zk M x = 4 ∧ (∀ k, zar k = true → zr M x k = some (q k) ∧ zk M (q k) = (if k = 3 then 6 else 5) ∧ zn M (q k) = zln k ∧ ∀ j, zi M (q k) j = A.2 k j) ∧ (zi M x 0 = w ∧ ∀ k, zar k = false → k ≠ 0 → zi M x k = A.1 k) ∧ (∀ j k, zar j = true → zar k = true → q j = q k → j = k)
def zsame (M M' : ZM) (a : Nat) : Prop := zk M' a = zk M a ∧ zn M' a = zn M a ∧ (∀ j, zi M' a j = zi M a j) ∧ (∀ j, zr M' a j = zr M a j) ∧ ∀ j, zj M' a j = zj M a j
theorem zsame.rf {a : Nat} : zsame M M a := ⟨rfl, rfl, fun _ => rfl, fun _ => rfl, fun _ => rfl⟩
theorem zsame.tr {M1 M2 M3 : ZM} {a : Nat} (h : zsame M1 M2 a) (g : zsame M2 M3 a) : zsame M1 M3 a := ⟨g.1.trans h.1, g.2.1.trans h.2.1, fun j => (g.2.2.1 j).trans (h.2.2.1 j), fun j => (g.2.2.2.1 j).trans (h.2.2.2.1 j), fun j => (g.2.2.2.2 j).trans (h.2.2.2.2 j)⟩
theorem zsame.i {a b k : Nat} {v : Int32} (h : b ≠ a) : zsame M (zsi M a k v) b := ⟨rfl, rfl, fun j => by rw [zi_i, if_neg (fun q => h q.1)], fun _ => rfl, fun _ => rfl⟩
theorem zsame.r {a b k : Nat} {v : Option Nat} (h : b ≠ a) : zsame M (zsr M a k v) b := ⟨rfl, rfl, fun _ => rfl, fun j => by rw [zr_r, if_neg (fun q => h q.1)], fun _ => rfl⟩
theorem zsame.j {a b k : Nat} {v : Int64} (h : b ≠ a) : zsame M (zsj M a k v) b := ⟨rfl, rfl, fun _ => rfl, fun _ => rfl, fun j => by rw [zj_j, if_neg (fun q => h q.1)]⟩
theorem zsame.w {a b kd n : Nat} (h : b ≠ a) : zsame M (zw M a kd n) b := ⟨by rw [zk_w, if_neg h], by rw [zn_w, if_neg h], fun j => by rw [zi_w, if_neg h], fun j => by rw [zr_w, if_neg h], fun j => by rw [zj_w, if_neg h]⟩
/-- nothing changes but the reference's cells -/
def zSm (x : Nat) (q : Nat → Nat) (M M' : ZM) : Prop := ∀ a, a ≠ x → (∀ k, zar k = true → a ≠ q k) → zsame M M' a
theorem zSm.rf {x : Nat} {q : Nat → Nat} : zSm x q M M := fun _ _ _ => zsame.rf
theorem zSm.tr {x : Nat} {q : Nat → Nat} {M1 M2 M3 : ZM} (h : zSm x q M1 M2) (g : zSm x q M2 M3) : zSm x q M1 M3 := fun a h1 h2 => (h a h1 h2).tr (g a h1 h2)
def zsc (A : ZA) (k : Nat) (v : Int32) : ZA := (zo A.1 k v, A.2)
def zsa (A : ZA) (k j : Nat) (v : Int32) : ZA := (A.1, zu A.2 k j v)
theorem zsc_1 (A : ZA) (k : Nat) (v : Int32) (j : Nat) : (zsc A k v).1 j = if j = k then v else A.1 j := rfl
theorem zsc_2 (A : ZA) (k : Nat) (v : Int32) : (zsc A k v).2 = A.2 := rfl
theorem zsa_1 (A : ZA) (k j : Nat) (v : Int32) : (zsa A k j v).1 = A.1 := rfl
theorem zsa_2 (A : ZA) (k j : Nat) (v : Int32) (k' i : Nat) : (zsa A k j v).2 k' i = if k' = k ∧ i = j then v else A.2 k' i := rfl
theorem zsa_n (A : ZA) (k j : Nat) (v : Int32) (k' : Nat) (h : k' ≠ k) : (zsa A k j v).2 k' = A.2 k' := funext fun i => by rw [zsa_2, if_neg (fun q => h q.1)]
section ZRS
variable {x : Nat} {q : Nat → Nat} {w : Int32} {A : ZA}
theorem zR.ne (h : zR M x q w A) {k : Nat} (hk : zar k = true) : q k ≠ x := fun e => by
  have h1 := (h.2.1 k hk).2.1
  rw [e, h.1] at h1
  split at h1 <;> omega
theorem zR.sc (h : zR M x q w A) {k : Nat} (hk : zar k = false) (h0 : k ≠ 0) {v : Int32} : zR (zsi M x k v) x q w (zsc A k v) := by
  refine ⟨h.1, fun j hj => ?_, ⟨?_, fun j hj hj0 => ?_⟩, h.2.2.2⟩
  · obtain ⟨h1, h2, h3, h4⟩ := h.2.1 j hj
    exact ⟨h1, h2, h3, fun i => by rw [zi_i, if_neg (fun z => h.ne hj z.1)]; exact h4 i⟩
  · rw [zi_i, if_neg (fun z => h0 z.2.symm)]
    exact h.2.2.1.1
  · rw [zi_i, zsc_1]
    by_cases e : j = k
    · rw [if_pos ⟨rfl, e⟩, if_pos e]
    · rw [if_neg (fun z => e z.2), if_neg e]
      exact h.2.2.1.2 j hj hj0
theorem zR.th (h : zR M x q w A) {v : Int32} : zR (zsi M x 0 v) x q v A := by
  refine ⟨h.1, fun j hj => ?_, ⟨?_, fun j hj hj0 => ?_⟩, h.2.2.2⟩
  · obtain ⟨h1, h2, h3, h4⟩ := h.2.1 j hj
    exact ⟨h1, h2, h3, fun i => by rw [zi_i, if_neg (fun z => h.ne hj z.1)]; exact h4 i⟩
  · rw [zi_i, if_pos ⟨rfl, rfl⟩]
  · rw [zi_i, if_neg (fun z => hj0 z.2)]
    exact h.2.2.1.2 j hj hj0
theorem zR.ar (h : zR M x q w A) {k j : Nat} (hk : zar k = true) {v : Int32} : zR (zsi M (q k) j v) x q w (zsa A k j v) := by
  refine ⟨h.1, fun k' hk' => ?_, ⟨?_, fun k' hk' hk0 => ?_⟩, h.2.2.2⟩
  · obtain ⟨h1, h2, h3, h4⟩ := h.2.1 k' hk'
    refine ⟨h1, h2, h3, fun i => ?_⟩
    rw [zi_i, zsa_2]
    by_cases e : k' = k
    · subst e
      by_cases ei : i = j
      · rw [if_pos ⟨rfl, ei⟩, if_pos ⟨rfl, ei⟩]
      · rw [if_neg (fun z => ei z.2), if_neg (fun z => ei z.2)]
        exact h4 i
    · rw [if_neg (fun z => e (h.2.2.2 k' k hk' hk z.1)), if_neg (fun z => e z.1)]
      exact h4 i
  · rw [zi_i, if_neg (fun z => h.ne hk z.1.symm)]
    exact h.2.2.1.1
  · rw [zi_i, if_neg (fun z => h.ne hk z.1.symm), zsa_1]
    exact h.2.2.1.2 k' hk' hk0
theorem zm_ld (K : zOK t tb G E) {k : Nat} {i : Int32} (j : Nat) (hd : decode (zyc t) pc = .ok (.iaload, 1)) (hk : zar k = true ∧ k ≠ 3) (hR : zR M x q w A) (hi : i = nI j) (hj : j < zln k) (kk : WW E G u Q M b (pc + 1) L (.int (A.2 k j) :: S)) : WW E G u Q M b pc L (.int i :: .ref (q k) :: S) := by
  obtain ⟨h1, h2, h3, h4⟩ := hR.2.1 k hk.1
  rw [if_neg hk.2] at h2
  refine zq_iald K j hd h2 hi (by rw [h3]; exact hj) (by rw [h3]; exact zln_lt k) ?_
  rw [h4]
  exact kk
theorem zm_st (K : zOK t tb G E) {k : Nat} {i v : Int32} (j : Nat) (hd : decode (zyc t) pc = .ok (.iastore, 1)) (hk : zar k = true ∧ k ≠ 3) (hR : zR M x q w A) (hS : zSm x q M0 M) (hi : i = nI j) (hj : j < zln k) (kk : ∀ M', zR M' x q w (zsa A k j v) → zSm x q M0 M' → WW E G u Q M' b (pc + 1) L S) : WW E G u Q M b pc L (.int v :: .int i :: .ref (q k) :: S) := by
  obtain ⟨h1, h2, h3, h4⟩ := hR.2.1 k hk.1
  rw [if_neg hk.2] at h2
  refine zq_iast K j hd h2 hi (by rw [h3]; exact hj) (by rw [h3]; exact zln_lt k) ?_
  exact kk _ (hR.ar hk.1) (hS.tr (fun a _ h2 => zsame.i (h2 k hk.1)))
/-- what a call of the reference's may have done -/
def zRP (x : Nat) (q : Nat → Nat) (M : ZM) (v : Option Value) (w : Int32) (A' : ZA) : ZO → ZM → Prop := fun o M' => o = .inl v ∧ zR M' x q w A' ∧ zSm x q M M'
theorem zRP_r {v : Option Value} {n : Nat} {A' : ZA} (hS : zSm x q M0 M) (k : ∀ M', zR M' x q w A' → zSm x q M0 M' → WW E G u Q M' n (pc + 3) L (v.toList ++ S)) : ∀ (v' : Option Value) (M' : ZM), zRP x q M v w A' (.inl v') M' → WW E G u Q M' n (pc + 3) L (v'.toList ++ S) := by
  rintro v' M' ⟨h1, h2, h3⟩
  cases h1
  exact k M' h2 (hS.tr h3)
theorem zRP_x {v : Option Value} {n : Nat} {A' : ZA} : ∀ (En : String) (M' : ZM), zRP x q M v w A' (.inr En) M' → XX E G u Q M' n pc L En := by
  rintro En M' ⟨h1, -⟩
  cases h1
end ZRS
end ZMOD
