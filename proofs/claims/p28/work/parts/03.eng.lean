/-! THE ENGINE: a memory of functions (zk: kinds, zn: lengths, zi: numbers, zr: references, zj: longs), what it says of the heap, and a row an instruction over it.
Kinds: 0 nothing, 1 to 4 the four classes in the order of vwCl, 5 int[], 6 boolean[], 7 long[], 8 Directory[], 9 Fragment[], 10 int[][]. -/
abbrev ZM : Type := (Nat → Nat) × (Nat → Nat) × (Nat → Nat → Int32) × (Nat → Nat → Option Nat) × (Nat → Nat → Int64)
def zk (M : ZM) (a : Nat) : Nat := M.1 a
def zn (M : ZM) (a : Nat) : Nat := M.2.1 a
def zi (M : ZM) (a k : Nat) : Int32 := M.2.2.1 a k
def zr (M : ZM) (a k : Nat) : Option Nat := M.2.2.2.1 a k
def zj (M : ZM) (a k : Nat) : Int64 := M.2.2.2.2 a k
def zu {α : Type} (f : Nat → Nat → α) (a k : Nat) (v : α) : Nat → Nat → α := fun b j => if b = a ∧ j = k then v else f b j
def zo {α : Type} (f : Nat → α) (a : Nat) (v : α) : Nat → α := fun b => if b = a then v else f b
def zsi (M : ZM) (a k : Nat) (v : Int32) : ZM := (M.1, M.2.1, zu M.2.2.1 a k v, M.2.2.2.1, M.2.2.2.2)
def zsr (M : ZM) (a k : Nat) (v : Option Nat) : ZM := (M.1, M.2.1, M.2.2.1, zu M.2.2.2.1 a k v, M.2.2.2.2)
def zsj (M : ZM) (a k : Nat) (v : Int64) : ZM := (M.1, M.2.1, M.2.2.1, M.2.2.2.1, zu M.2.2.2.2 a k v)
def zw (M : ZM) (a kd n : Nat) : ZM := (zo M.1 a kd, zo M.2.1 a n, zo M.2.2.1 a (fun _ => 0), zo M.2.2.2.1 a (fun _ => none), zo M.2.2.2.2 a (fun _ => 0))
theorem zk_i (M : ZM) (a k : Nat) (v : Int32) (b : Nat) : zk (zsi M a k v) b = zk M b := rfl
theorem zk_r (M : ZM) (a k : Nat) (v : Option Nat) (b : Nat) : zk (zsr M a k v) b = zk M b := rfl
theorem zk_j (M : ZM) (a k : Nat) (v : Int64) (b : Nat) : zk (zsj M a k v) b = zk M b := rfl
theorem zk_w (M : ZM) (a kd n : Nat) (b : Nat) : zk (zw M a kd n) b = if b = a then kd else zk M b := rfl
theorem zn_i (M : ZM) (a k : Nat) (v : Int32) (b : Nat) : zn (zsi M a k v) b = zn M b := rfl
theorem zn_r (M : ZM) (a k : Nat) (v : Option Nat) (b : Nat) : zn (zsr M a k v) b = zn M b := rfl
theorem zn_j (M : ZM) (a k : Nat) (v : Int64) (b : Nat) : zn (zsj M a k v) b = zn M b := rfl
theorem zn_w (M : ZM) (a kd n : Nat) (b : Nat) : zn (zw M a kd n) b = if b = a then n else zn M b := rfl
theorem zi_i (M : ZM) (a k : Nat) (v : Int32) (b j : Nat) : zi (zsi M a k v) b j = if b = a ∧ j = k then v else zi M b j := rfl
theorem zi_r (M : ZM) (a k : Nat) (v : Option Nat) (b j : Nat) : zi (zsr M a k v) b j = zi M b j := rfl
theorem zi_j (M : ZM) (a k : Nat) (v : Int64) (b j : Nat) : zi (zsj M a k v) b j = zi M b j := rfl
theorem zi_w (M : ZM) (a kd n : Nat) (b j : Nat) : zi (zw M a kd n) b j = if b = a then 0 else zi M b j := by
  show (if b = a then fun _ => 0 else M.2.2.1 b) j = _
  split <;> rfl
theorem zr_i (M : ZM) (a k : Nat) (v : Int32) (b j : Nat) : zr (zsi M a k v) b j = zr M b j := rfl
theorem zr_r (M : ZM) (a k : Nat) (v : Option Nat) (b j : Nat) : zr (zsr M a k v) b j = if b = a ∧ j = k then v else zr M b j := rfl
theorem zr_j (M : ZM) (a k : Nat) (v : Int64) (b j : Nat) : zr (zsj M a k v) b j = zr M b j := rfl
theorem zr_w (M : ZM) (a kd n : Nat) (b j : Nat) : zr (zw M a kd n) b j = if b = a then none else zr M b j := by
  show (if b = a then fun _ => none else M.2.2.2.1 b) j = _
  split <;> rfl
theorem zj_i (M : ZM) (a k : Nat) (v : Int32) (b j : Nat) : zj (zsi M a k v) b j = zj M b j := rfl
theorem zj_r (M : ZM) (a k : Nat) (v : Option Nat) (b j : Nat) : zj (zsr M a k v) b j = zj M b j := rfl
theorem zj_j (M : ZM) (a k : Nat) (v : Int64) (b j : Nat) : zj (zsj M a k v) b j = if b = a ∧ j = k then v else zj M b j := rfl
theorem zj_w (M : ZM) (a kd n : Nat) (b j : Nat) : zj (zw M a kd n) b j = if b = a then 0 else zj M b j := by
  show (if b = a then fun _ => 0 else M.2.2.2.2 b) j = _
  split <;> rfl
/-- which fields are numbers: class by class -/
def zfi : Nat → Nat → Bool
  | 0, k => k == 0 || k == 2
  | 1, _ => true
  | 2, k => !(k == 0 || k == 5 || k == 6 || k == 7)
  | _, k => k == 0 || k == 1 || k == 2 || k == 8 || k == 9 || k == 16 || k == 17 || k == 18
def zfv (M : ZM) (a ci k : Nat) : Value := if zfi ci k = true then .int (zi M a k) else va_rf (zr M a k)
def zfs (M : ZM) (a ci N : Nat) : List Value := (List.range N).map (zfv M a ci)
abbrev ZG : Type := Launch × va_G × (Nat → ClassId) × Heap
def zTy (c : Nat → ClassId) : List (ClassId × FieldType) := [(c 0, .int), (c 1, .int), (c 2, .int), (c 3, .object RX0), (c 4, .object RX1), (c 5, .array .int)]
/-- the contents of an array, by its kind -/
def zct (M : ZM) (a k : Nat) : vp_A := (zn M a, if k = 5 ∨ k = 6 then .inl (zi M a) else if k = 7 then .inr (.inl (zj M a)) else .inr (.inr (.inr (.inr (zr M a)))))
def zsz : Nat → Nat
  | 0 => 7
  | 1 => 5
  | 2 => 10
  | _ => 19
def zE (c : Nat → ClassId) (M : ZM) (a : Nat) : va_E := if zk M a ≤ 4 then .inr (zk M a - 1, zfs M a (zk M a - 1) (zsz (zk M a - 1))) else .inl (c (zk M a - 5), zct M a (zk M a))
theorem zE_o {c : Nat → ClassId} {M : ZM} {a ci : Nat} (h : zk M a = ci + 1) (hc : ci < 4) : zE c M a = .inr (ci, zfs M a ci (zsz ci)) := by
  unfold zE
  rw [h, if_pos (by omega), Nat.add_sub_cancel]
theorem zE_a {c : Nat → ClassId} {M : ZM} {a k : Nat} (h : zk M a = k) (hc : 5 ≤ k) : zE c M a = .inl (c (k - 5), zct M a k) := by
  unfold zE
  rw [h, if_neg (by omega)]
def zRel (G : ZG) (M : ZM) (H : Heap) : Prop := G.2.2.2.size ≤ H.size ∧ (∀ q, q < G.2.2.2.size → H[q]? = G.2.2.2[q]?) ∧ ∀ a, zk M a ≠ 0 → G.2.2.2.size ≤ a ∧ va_at G.2.1 vwCl (a, zE G.2.2.1 M a) H
theorem zRel.lt {G : ZG} {M : ZM} {H : Heap} (h : zRel G M H) {a : Nat} (ha : zk M a ≠ 0) : a < H.size := (h.2.2 a ha).2.lt
theorem zRel.fresh {G : ZG} {M : ZM} {H : Heap} (h : zRel G M H) {a : Nat} (ha : H.size ≤ a) : zk M a = 0 := by
  by_cases e : zk M a = 0
  · exact e
  · exact absurd (h.lt e) (by omega)
/-- one cell changes -/
theorem zRel.put {G : ZG} {M M' : ZM} {H H' : Heap} (h : zRel G M H) {a : Nat} (ha : zk M a ≠ 0) (hz : H'.size = H.size) (ho : ∀ q, q ≠ a → H'[q]? = H[q]?) (hkd : ∀ b, zk M' b = zk M b) (hE : ∀ b, b ≠ a → zE G.2.2.1 M' b = zE G.2.2.1 M b) (hn : va_at G.2.1 vwCl (a, zE G.2.2.1 M' a) H') : zRel G M' H' := by
  have hA := (h.2.2 a ha).1
  refine ⟨by rw [hz]; exact h.1, fun q hq => ?_, fun b hb => ?_⟩
  · rw [ho q (by omega)]
    exact h.2.1 q hq
  · rw [hkd] at hb
    refine ⟨(h.2.2 b hb).1, ?_⟩
    by_cases e : b = a
    · subst e
      exact hn
    · rw [hE b e]
      exact (h.2.2 b hb).2.kept (ho b e)
/-- the heap has grown -/
theorem zRel.grow {G : ZG} {M : ZM} {H H' : Heap} (h : zRel G M H) (hz : H.size ≤ H'.size) (ho : ∀ q, q < H.size → H'[q]? = H[q]?) : zRel G M H' :=
  ⟨Nat.le_trans h.1 hz, fun q hq => by rw [ho q (Nat.lt_of_lt_of_le hq h.1)]; exact h.2.1 q hq, fun b hb => ⟨(h.2.2 b hb).1, (h.2.2 b hb).2.kept (ho b (h.lt hb))⟩⟩
theorem zE_w {c : Nat → ClassId} {M : ZM} {a kd n b : Nat} (e : b ≠ a) : zE c (zw M a kd n) b = zE c M b := by
  have h1 : zk (zw M a kd n) b = zk M b := by rw [zk_w, if_neg e]
  have h2 : zn (zw M a kd n) b = zn M b := by rw [zn_w, if_neg e]
  have h3 : zi (zw M a kd n) b = zi M b := funext fun j => by rw [zi_w, if_neg e]
  have h4 : zr (zw M a kd n) b = zr M b := funext fun j => by rw [zr_w, if_neg e]
  have h5 : zj (zw M a kd n) b = zj M b := funext fun j => by rw [zj_w, if_neg e]
  unfold zE zct zfs zfv
  rw [h1, h2, h3, h4, h5]
theorem zRel.new {G : ZG} {M : ZM} {H H' : Heap} (h : zRel G M H) {a kd n : Nat} (hz : H'.size = a + 1) (haz : a = H.size) (ho : ∀ q, q < H.size → H'[q]? = H[q]?) (hn : va_at G.2.1 vwCl (a, zE G.2.2.1 (zw M a kd n) a) H') : zRel G (zw M a kd n) H' := by
  have g := h.grow (H' := H') (by omega) ho
  refine ⟨g.1, g.2.1, fun b hb => ?_⟩
  by_cases e : b = a
  · subst e
    exact ⟨by rw [haz]; exact h.1, hn⟩
  · have h1 : zk (zw M a kd n) b = zk M b := by rw [zk_w, if_neg e]
    rw [h1] at hb
    rw [zE_w e]
    exact g.2.2 b hb
theorem zfs_get {M : ZM} {a ci N k : Nat} (hk : k < N) : (zfs M a ci N)[k]? = some (zfv M a ci k) := by
  unfold zfs
  rw [List.getElem?_map, List.getElem?_range hk]
  rfl
theorem zfs_len {M : ZM} {a ci N : Nat} : (zfs M a ci N).length = N := by simp [zfs]
theorem zfs_set {M M' : ZM} {a ci N k : Nat} {v : Value} (hk : zfv M' a ci k = v) (ho : ∀ j, j ≠ k → zfv M' a ci j = zfv M a ci j) : (zfs M a ci N).set k v = zfs M' a ci N := by
  apply List.ext_getElem?
  intro j
  rw [List.getElem?_set]
  by_cases e : k = j
  · subst e
    rw [if_pos rfl, zfs_len]
    by_cases h : k < N
    · rw [if_pos h, zfs_get h, hk]
    · rw [if_neg h, List.getElem?_eq_none (by rw [zfs_len]; omega)]
  · rw [if_neg e]
    by_cases h : j < N
    · rw [zfs_get h, zfs_get h, ho j (fun q => e q.symm)]
    · rw [List.getElem?_eq_none (by rw [zfs_len]; omega), List.getElem?_eq_none (by rw [zfs_len]; omega)]
/-! the locals -/
def zL (ls : Array Slot) (n : Nat) (L : List (Option Value)) : Prop := ls.size = n ∧ lv_wf ls ∧ ∀ (i : Nat) (v : Value), L[i]? = some (some v) → v.category = 1 ∧ ls[i]? = some (Slot.val v)
def zA (L : List (Option Value)) : List (Nat × Value) := (List.range L.length).filterMap (fun i => (L[i]?.join).map (fun v => (i, v)))
theorem zA_mem {L : List (Option Value)} {q : Nat × Value} : q ∈ zA L ↔ L[q.1]? = some (some q.2) := by
  unfold zA
  rw [List.mem_filterMap]
  constructor
  · rintro ⟨i, -, h⟩
    obtain ⟨v, h1, h2⟩ := Option.map_eq_some_iff.mp h
    subst h2
    cases h3 : L[i]? with
    | none => rw [h3] at h1; cases h1
    | some x => rw [h3] at h1; have : x = some v := h1; rw [this]
  · intro h
    refine ⟨q.1, List.mem_range.mpr (List.getElem?_eq_some_iff.mp h).1, ?_⟩
    rw [h]
    rfl
theorem zL.has {ls : Array Slot} {n : Nat} {L : List (Option Value)} (h : zL ls n L) : lv_has ls n (zA L) := ⟨h.1, h.2.1, fun q hq => (h.2.2 q.1 q.2 (zA_mem.mp hq)).2⟩
theorem zL.of {ls ls' : Array Slot} {n i : Nat} {L : List (Option Value)} {x : Value} {lv : List (Nat × Value)} (h : zL ls n L) (hx : x.category = 1) (hl : (i, x) :: (zA L).filter (fun q => !(q.1 == i) && !(q.1 + 1 == i && q.2.category == 2)) = lv) (h' : lv_has ls' n lv) : zL ls' n (L.set i (some x)) := by
  subst hl
  refine ⟨h'.1, h'.2.1, fun j v hj => ?_⟩
  rw [List.getElem?_set] at hj
  by_cases e : i = j
  · subst e
    rw [if_pos rfl] at hj
    by_cases hl : i < L.length
    · rw [if_pos hl] at hj
      cases hj
      exact ⟨hx, h'.2.2 (i, x) List.mem_cons_self⟩
    · rw [if_neg hl] at hj
      cases hj
  · rw [if_neg e] at hj
    have hc := (h.2.2 j v hj).1
    refine ⟨hc, h'.2.2 (j, v) (List.mem_cons_of_mem _ (List.mem_filter.mpr ⟨zA_mem.mpr hj, ?_⟩))⟩
    have e' : ¬ j = i := fun q => e q.symm
    simp [hc, e']
theorem zL_entry {vs : List Value} {n : Nat} (hc : ∀ v ∈ vs, v.category = 1) (hn : vs.length ≤ n) : zL ((lg_sl vs ++ List.replicate (n - (lg_sl vs).length) Slot.unset).toArray) n (vs.map some ++ List.replicate (n - vs.length) none) := by
  have hl : ∀ l : List Value, (∀ v ∈ l, v.category = 1) → lg_sl l = l.map Slot.val := by
    intro l
    induction l with
    | nil => intro _; rfl
    | cons a l ih =>
      intro h
      have h1 := h a List.mem_cons_self
      have h2 := ih (fun v hv => h v (List.mem_cons_of_mem _ hv))
      show (if a.category = 2 then [Slot.val a, Slot.second] else [Slot.val a]) ++ lg_sl l = _
      rw [h2, if_neg (by omega)]
      rfl
  have e := hl vs hc
  have hlen : (lg_sl vs).length = vs.length := by rw [e, List.length_map]
  have h0 := lv_entry vs (n := n) (by rw [hlen]; exact hn)
  refine ⟨h0.1, h0.2.1, fun i v hi => ?_⟩
  by_cases hlt : i < vs.length
  · rw [List.getElem?_append_left (by rw [List.length_map]; exact hlt), List.getElem?_map] at hi
    obtain ⟨w, hw, hv⟩ := Option.map_eq_some_iff.mp hi
    have e2 : w = v := Option.some.inj hv
    subst e2
    refine ⟨hc w (List.mem_of_getElem? hw), ?_⟩
    rw [e, List.getElem?_toArray, List.getElem?_append_left (by rw [List.length_map]; exact hlt), List.getElem?_map, hw]
    rfl
  · rw [List.getElem?_append_right (by rw [List.length_map]; omega)] at hi
    exact absurd (List.eq_of_mem_replicate (List.mem_of_getElem? hi)) (by simp)

